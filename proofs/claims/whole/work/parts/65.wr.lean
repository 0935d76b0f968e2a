/-! ===== writings: the class reads one ===== -/
def wr_ink (c : Int) : Prop := c = 46 ∨ (97 ≤ c ∧ c ≤ 122)
def wr_sg (c : Int) : Int := if c = 46 then 26 else c - 97
/-- signs of a line from place pl on: whether it ended well, where, its signs -/
def rl (T : Int → Int) (n : Int) : Nat → Int → Int → Int → Bool × Int × List Int
  | 0, i, _, _ => (false, tp_skip T n i, [])
  | k + 1, i, pl, sz => if tp_ch T n (tp_skip T n i) = 46 ∨ (97 ≤ tp_ch T n (tp_skip T n i) ∧ tp_ch T n (tp_skip T n i) ≤ 122) then
      (if pl = 8 ∨ 16 ≤ sz then (false, tp_skip T n i, []) else ((rl T n k (tp_skip T n i + 1) (pl + 1) (sz + 1)).1, (rl T n k (tp_skip T n i + 1) (pl + 1) (sz + 1)).2.1, wr_sg (tp_ch T n (tp_skip T n i)) :: (rl T n k (tp_skip T n i + 1) (pl + 1) (sz + 1)).2.2))
    else (decide (0 < pl), tp_skip T n i, [])
def wr_let : List Int → Int
  | [] => 0
  | s :: r => (if s = 26 then 0 else 1) + wr_let r
/-- places from pl on -/
def wr_pl (pl : Int) : List Int → List Int
  | [] => []
  | _ :: r => pl :: wr_pl (pl + 1) r
def wr_ln (l : Int) (x : List Int) : List Int := x.map (fun _ => l)
theorem wr_let_in : ∀ l, 0 ≤ wr_let l ∧ wr_let l ≤ l.length
  | [] => by simp [wr_let]
  | s :: r => by
    have := wr_let_in r
    simp only [wr_let, List.length_cons]
    split <;> omega
theorem rl_in {T : Int → Int} {n : Int} (hT : tp_ok T n) : ∀ (k : Nat) (i pl sz : Int), 0 ≤ i → i ≤ n → 0 ≤ pl → i ≤ (rl T n k i pl sz).2.1 ∧ (rl T n k i pl sz).2.1 ≤ n ∧ tp_skip T n (rl T n k i pl sz).2.1 = (rl T n k i pl sz).2.1 ∧ (sz ≤ 16 → sz + (rl T n k i pl sz).2.2.length ≤ 16) ∧ (pl ≤ 8 → pl + (rl T n k i pl sz).2.2.length ≤ 8) ∧ ((rl T n k i pl sz).1 = true → 0 < pl + (rl T n k i pl sz).2.2.length)
  | 0, i, pl, sz, i0, i1, p0 => by
    have a1 := tp_skip_ge T n i
    have a2 := tp_skip_le T i1
    simp only [rl]
    exact ⟨a1, a2, tp_skip_skip _ _ _, fun h => by simpa using h, fun h => by simpa using h, fun h => by simp at h⟩
  | k + 1, i, pl, sz, i0, i1, p0 => by
    have a1 := tp_skip_ge T n i
    have a2 := tp_skip_le T i1
    have a3 := tp_ch_in (i := tp_skip T n i) hT (by omega)
    simp only [rl]
    split
    · split
      · exact ⟨a1, a2, tp_skip_skip _ _ _, fun h => by simpa using h, fun h => by simpa using h, fun h => by simp at h⟩
      · next hc =>
        have ih := rl_in hT k (tp_skip T n i + 1) (pl + 1) (sz + 1) (by omega) (by omega) (by omega)
        simp only [List.length_cons]
        push_cast
        refine ⟨by omega, ih.2.1, ih.2.2.1, fun h => ?_, fun h => ?_, fun h => by omega⟩
        · have := ih.2.2.2.1 (by omega); omega
        · have := ih.2.2.2.2.1 (by omega); omega
    · refine ⟨a1, a2, tp_skip_skip _ _ _, fun h => by simpa using h, fun h => by simpa using h, fun h => ?_⟩
      simp only [decide_eq_true_eq] at h
      simp only [List.length_nil]
      omega
def wps (M0 : sk_M) (a ta tb : Nat) (T : Int → Int) (n : Int) (M : sk_M) (i : Int) (sg ln pl ss lg : Int → Int) (size lines longest letters : Int) : Prop :=
  tp_at M ta tb T n i ∧ M.2 a = (10, 0, sk_F [.inr (.inr (some (a + 1))), .inr (.inr (some (a + 2))), .inr (.inr (some (a + 3))), .inr (.inr (some (a + 4))), .inr (.inr (some (a + 5))), .inl size, .inl lines, .inl longest, .inl letters]) ∧ M.2 (a + 1) = (20, 16, sk_I sg) ∧ M.2 (a + 2) = (20, 16, sk_I ln) ∧ M.2 (a + 3) = (20, 16, sk_I pl) ∧ M.2 (a + 4) = (20, 4, sk_I ss) ∧ M.2 (a + 5) = (20, 4, sk_I lg) ∧ sk_fr1 M0 M (fun q => q = ta ∨ (a ≤ q ∧ q ≤ a + 5)) ∧ tp_ok T n
section WR
variable {g : sk_G} {d ck sk : Nat} {M M0 : sk_M} {Q : sk_P} {a ta tb : Nat} {T : Int → Int} {n i : Int} {sg ln pl ss lg f : Int → Int} {size lines longest letters : Int}
theorem wps_ne (h : wps M0 a ta tb T n M i sg ln pl ss lg size lines longest letters) : ta ≠ a ∧ ta ≠ a + 1 ∧ ta ≠ a + 2 ∧ ta ≠ a + 3 ∧ ta ≠ a + 4 ∧ ta ≠ a + 5 ∧ tb ≠ a ∧ tb ≠ a + 1 ∧ tb ≠ a + 2 ∧ tb ≠ a + 3 ∧ tb ≠ a + 4 ∧ tb ≠ a + 5 := by
  obtain ⟨⟨t1, t2⟩, h0, h1, h2, h3, h4, h5, hf, hT⟩ := h
  refine ⟨?_, ?_, ?_, ?_, ?_, ?_, ?_, ?_, ?_, ?_, ?_, ?_⟩
  all_goals rintro rfl
  all_goals first | (rw [t1] at h0; simp at h0; done) | (rw [t1] at h1; simp at h1; done) | (rw [t1] at h2; simp at h2; done) | (rw [t1] at h3; simp at h3; done) | (rw [t1] at h4; simp at h4; done) | (rw [t1] at h5; simp at h5; done) | (rw [t2] at h0; simp at h0; done) | (rw [t2] at h1; simp at h1; done) | (rw [t2] at h2; simp at h2; done) | (rw [t2] at h3; simp at h3; done) | (rw [t2] at h4; simp at h4; done) | (rw [t2] at h5; simp at h5; done)
theorem wps_tp {j : Int} (h : wps M0 a ta tb T n M i sg ln pl ss lg size lines longest letters) : wps M0 a ta tb T n (tp_mv M ta tb n j) j sg ln pl ss lg size lines longest letters := by
  obtain ⟨n0, n1, n2, n3, n4, n5, -⟩ := wps_ne h
  obtain ⟨t, h0, h1, h2, h3, h4, h5, hf, hT⟩ := h
  exact ⟨tp_at_mv t, (va_up_ne _ _ (Ne.symm n0)).trans h0, (va_up_ne _ _ (Ne.symm n1)).trans h1, (va_up_ne _ _ (Ne.symm n2)).trans h2, (va_up_ne _ _ (Ne.symm n3)).trans h3, (va_up_ne _ _ (Ne.symm n4)).trans h4, (va_up_ne _ _ (Ne.symm n5)).trans h5, hf.put (Or.inl rfl), hT⟩
theorem wps_f {size' lines' longest' letters' : Int} (h : wps M0 a ta tb T n M i sg ln pl ss lg size lines longest letters) : wps M0 a ta tb T n (M.1, va_up M.2 a (10, 0, sk_F [.inr (.inr (some (a + 1))), .inr (.inr (some (a + 2))), .inr (.inr (some (a + 3))), .inr (.inr (some (a + 4))), .inr (.inr (some (a + 5))), .inl size', .inl lines', .inl longest', .inl letters'])) i sg ln pl ss lg size' lines' longest' letters' := by
  obtain ⟨n0, n1, n2, n3, n4, n5, m0, -⟩ := wps_ne h
  obtain ⟨t, h0, h1, h2, h3, h4, h5, hf, hT⟩ := h
  exact ⟨⟨(va_up_ne _ _ n0).trans t.1, (va_up_ne _ _ m0).trans t.2⟩, va_up_self _ _ _, (va_up_ne _ _ (by omega)).trans h1, (va_up_ne _ _ (by omega)).trans h2, (va_up_ne _ _ (by omega)).trans h3, (va_up_ne _ _ (by omega)).trans h4, (va_up_ne _ _ (by omega)).trans h5, hf.put (Or.inr ⟨by omega, by omega⟩), hT⟩
theorem wps_1 (h : wps M0 a ta tb T n M i sg ln pl ss lg size lines longest letters) : wps M0 a ta tb T n (M.1, va_up M.2 (a + 1) (20, 16, sk_I f)) i f ln pl ss lg size lines longest letters := by
  obtain ⟨n0, n1, n2, n3, n4, n5, m0, m1, m2, m3, m4, m5⟩ := wps_ne h
  obtain ⟨t, h0, h1, h2, h3, h4, h5, hf, hT⟩ := h
  exact ⟨⟨(va_up_ne _ _ n1).trans t.1, (va_up_ne _ _ m1).trans t.2⟩, (va_up_ne _ _ (by omega)).trans h0, va_up_self _ _ _, (va_up_ne _ _ (by omega)).trans h2, (va_up_ne _ _ (by omega)).trans h3, (va_up_ne _ _ (by omega)).trans h4, (va_up_ne _ _ (by omega)).trans h5, hf.put (Or.inr ⟨by omega, by omega⟩), hT⟩
theorem wps_2 (h : wps M0 a ta tb T n M i sg ln pl ss lg size lines longest letters) : wps M0 a ta tb T n (M.1, va_up M.2 (a + 2) (20, 16, sk_I f)) i sg f pl ss lg size lines longest letters := by
  obtain ⟨n0, n1, n2, n3, n4, n5, m0, m1, m2, m3, m4, m5⟩ := wps_ne h
  obtain ⟨t, h0, h1, h2, h3, h4, h5, hf, hT⟩ := h
  exact ⟨⟨(va_up_ne _ _ n2).trans t.1, (va_up_ne _ _ m2).trans t.2⟩, (va_up_ne _ _ (by omega)).trans h0, (va_up_ne _ _ (by omega)).trans h1, va_up_self _ _ _, (va_up_ne _ _ (by omega)).trans h3, (va_up_ne _ _ (by omega)).trans h4, (va_up_ne _ _ (by omega)).trans h5, hf.put (Or.inr ⟨by omega, by omega⟩), hT⟩
theorem wps_3 (h : wps M0 a ta tb T n M i sg ln pl ss lg size lines longest letters) : wps M0 a ta tb T n (M.1, va_up M.2 (a + 3) (20, 16, sk_I f)) i sg ln f ss lg size lines longest letters := by
  obtain ⟨n0, n1, n2, n3, n4, n5, m0, m1, m2, m3, m4, m5⟩ := wps_ne h
  obtain ⟨t, h0, h1, h2, h3, h4, h5, hf, hT⟩ := h
  exact ⟨⟨(va_up_ne _ _ n3).trans t.1, (va_up_ne _ _ m3).trans t.2⟩, (va_up_ne _ _ (by omega)).trans h0, (va_up_ne _ _ (by omega)).trans h1, (va_up_ne _ _ (by omega)).trans h2, va_up_self _ _ _, (va_up_ne _ _ (by omega)).trans h4, (va_up_ne _ _ (by omega)).trans h5, hf.put (Or.inr ⟨by omega, by omega⟩), hT⟩
theorem wps_4 (h : wps M0 a ta tb T n M i sg ln pl ss lg size lines longest letters) : wps M0 a ta tb T n (M.1, va_up M.2 (a + 4) (20, 4, sk_I f)) i sg ln pl f lg size lines longest letters := by
  obtain ⟨n0, n1, n2, n3, n4, n5, m0, m1, m2, m3, m4, m5⟩ := wps_ne h
  obtain ⟨t, h0, h1, h2, h3, h4, h5, hf, hT⟩ := h
  exact ⟨⟨(va_up_ne _ _ n4).trans t.1, (va_up_ne _ _ m4).trans t.2⟩, (va_up_ne _ _ (by omega)).trans h0, (va_up_ne _ _ (by omega)).trans h1, (va_up_ne _ _ (by omega)).trans h2, (va_up_ne _ _ (by omega)).trans h3, va_up_self _ _ _, (va_up_ne _ _ (by omega)).trans h5, hf.put (Or.inr ⟨by omega, by omega⟩), hT⟩
theorem wps_5 (h : wps M0 a ta tb T n M i sg ln pl ss lg size lines longest letters) : wps M0 a ta tb T n (M.1, va_up M.2 (a + 5) (20, 4, sk_I f)) i sg ln pl ss f size lines longest letters := by
  obtain ⟨n0, n1, n2, n3, n4, n5, m0, m1, m2, m3, m4, m5⟩ := wps_ne h
  obtain ⟨t, h0, h1, h2, h3, h4, h5, hf, hT⟩ := h
  exact ⟨⟨(va_up_ne _ _ n5).trans t.1, (va_up_ne _ _ m5).trans t.2⟩, (va_up_ne _ _ (by omega)).trans h0, (va_up_ne _ _ (by omega)).trans h1, (va_up_ne _ _ (by omega)).trans h2, (va_up_ne _ _ (by omega)).trans h3, (va_up_ne _ _ (by omega)).trans h4, va_up_self _ _ _, hf.put (Or.inr ⟨by omega, by omega⟩), hT⟩
end WR
