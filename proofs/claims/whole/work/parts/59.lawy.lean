/-! ===== laws: good clauses; bounds ===== -/
def lq_good (q : lq_C) : Prop := (∀ le, ∃ f, lv_run le q.2.2 [] = some [f]) ∧ (q.1 = true → ∀ le, ∃ b, lv_b b ∧ lv_run le q.2.1 [] = some [b]) ∧ (q.1 = false → q.2.1 = [])
theorem lq_fin_good {T : Int → Int} {n i : Int} {r : lp_R} (hT : tp_ok T n) (i0 : 0 ≤ i) (hr : lp_ok n true i r) (hb : r.1 = true → ∀ le, ∃ b, lv_b b ∧ lv_run le r.2.2 [] = some [b]) (h : (lq_fin T n r).1 = true) : lq_good (lq_fin T n r).2.2 := by
  unfold lq_fin at h ⊢
  by_cases e : r.1 = true
  · rw [if_pos e] at h ⊢
    by_cases e2 : tp_ch T n (tp_skip T n r.2.1) = 63
    · rw [if_pos e2] at h ⊢
      have k0 := hr.1
      have k1 := tp_skip_ge T n r.2.1
      have k2 := tp_skip_le T hr.2.1
      have k3 := tp_ch_in (i := tp_skip T n r.2.1) hT (by omega)
      refine ⟨fun le => ?_, fun _ => hb e, fun e3 => by simp at e3⟩
      obtain ⟨f, g⟩ := lv_good T n hT LF 3 0 (tp_skip T n r.2.1 + 1) (by omega) (by omega) (by omega) (by omega) (by omega) h le
      exact ⟨f, g [] (by decide)⟩
    · rw [if_neg e2] at h; simp at h
  · rw [if_neg e] at h; simp at h
theorem lq_isGood {T : Int → Int} {n i : Int} (hT : tp_ok T n) (i0 : 0 ≤ i) (i1 : i ≤ n) (h : (lq T n i).1 = true) : lq_good (lq T n i).2.2 := by
  have a1 := tp_skip_ge T n i
  have a2 := tp_skip_le T i1
  have a3 := tp_ch_in (i := tp_skip T n i) hT (by omega)
  unfold lq at h ⊢
  by_cases e1 : tp_ch T n (tp_skip T n i) = 121
  · rw [if_pos e1] at h ⊢
    have b1 := tp_skip_ge T n (tp_skip T n i + 1)
    have b2 := tp_skip_le T (show tp_skip T n i + 1 ≤ n by omega)
    have b3 := tp_ch_in (i := tp_skip T n (tp_skip T n i + 1)) hT (by omega)
    by_cases e2 : tp_ch T n (tp_skip T n (tp_skip T n i + 1)) = 58
    · rw [if_pos e2] at h ⊢
      have hm1 : i + 2 ≤ tp_skip T n (tp_skip T n i + 1) + 1 := by omega
      have hm2 : tp_skip T n (tp_skip T n i + 1) + 1 ≤ n := by omega
      generalize tp_skip T n (tp_skip T n i + 1) + 1 = m at *
      unfold lq_at at h ⊢
      split at h
      · next e3 =>
        rw [if_pos e3]
        refine lq_fin_good hT (by omega) (lp_prog T n hT LF 9 0 m (by omega) hm2 (by omega)) (fun e le => ?_) h
        obtain ⟨f, fb, g⟩ := lv_good T n hT LF 9 0 m (by omega) (by omega) (by omega) (by omega) hm2 e le
        exact ⟨f, fb, g [] (by decide)⟩
      · next e3 =>
        rw [if_neg e3]
        have hs := lp_prog T n hT LF 3 0 m (by omega) hm2 (by omega)
        split at h
        · next e4 =>
          rw [if_pos e4]
          have s4 := hs.2.2 e4
          have s5 := s4.1 rfl
          split at h
          · next e5 =>
            rw [if_pos e5]
            have hq := lq_cmp_ok hT (k := (lp T n LF 3 0 m).2.1) (by omega) hs.2.1
            refine lq_fin_good (i := i) hT (by omega) (lp_ok_b hq (by omega) (fun e6 => ?_)) (fun e6 le => ?_) h
            · have hq2 := hq.2.2 e6
              have hq3 := hq2.1 rfl
              have hq4 := hq.2.1
              exact ⟨by simp only []; omega, hq4, fun _ => ⟨fun _ => by simp only []; omega, by simp only [List.length_append]; omega⟩⟩
            · obtain ⟨e7, e8⟩ := lp_b_inv e6
              rw [e8]
              unfold lq_cmp at e7 ⊢
              have r5 := lp_prog T n hT LF 5 0 (lp T n LF 3 0 m).2.1 (by omega) hs.2.1 (by omega)
              obtain ⟨f1, f2⟩ := lp_b_inv e7
              rw [f2] at e7 ⊢
              have r5b := (r5.2.2 f1).1 rfl
              have r7 := lp_prog T n hT LF 7 0 _ (by omega) r5.2.1 (by omega)
              obtain ⟨f3, f4⟩ := lp_b_inv e7
              rw [f4] at e7 ⊢
              have r7b := r7.1
              obtain ⟨f5, f6⟩ := lp_b_inv e7
              rw [f6]
              obtain ⟨v3, g3⟩ := lv_good T n hT LF 3 0 m (by omega) (by omega) (by omega) (by omega) hm2 e4 le
              obtain ⟨v5, vb5, g5⟩ := lv_good T n hT LF 5 0 _ (by omega) (by omega) (by omega) (by omega) hs.2.1 f1 le v3
              obtain ⟨v7, vb7, g7⟩ := lv_good T n hT LF 7 0 _ (by omega) (by omega) (by omega) (by omega) r5.2.1 f3 le v5 vb5
              obtain ⟨v8, vb8, g8⟩ := lv_good T n hT LF 8 0 _ (by omega) (by omega) (by omega) (by omega) r7.2.1 f5 le v7 vb7
              exact ⟨v8, vb8, lv_seq (g3 [] (by decide)) (lv_seq (g5 [] (by decide)) (lv_seq (g7 [] (by decide)) (g8 [] (by decide))))⟩
          · next e5 =>
            rw [if_neg e5]
            refine ⟨fun le => ?_, fun e6 => by simp at e6, fun _ => rfl⟩
            obtain ⟨f, g⟩ := lv_good T n hT LF 3 0 m (by omega) (by omega) (by omega) (by omega) hm2 e4 le
            exact ⟨f, g [] (by decide)⟩
        · simp at h
    · rw [if_neg e2] at h; simp at h
  · rw [if_neg e1] at h; simp at h
theorem lr_good {T : Int → Int} {n : Int} (hT : tp_ok T n) : ∀ (k : Nat) (i : Int), 0 ≤ i → i ≤ n → (lr T n k i).1 = true → ∀ q ∈ (lr T n k i).2.2, lq_good q
  | 0, i, _, _, h, q, hq => by simp [lr] at h
  | k + 1, i, i0, i1, h, q, hq => by
    simp only [lr] at h hq
    split at h
    · next e1 =>
      rw [if_pos e1] at hq
      have hin := lq_in hT i0 i1 0
      have hin2 := hin.2.2 e1
      have k1 := tp_skip_ge T n (lq T n i).2.1
      have k2 := tp_skip_le T hin.2.1
      have k3 := tp_ch_in (i := tp_skip T n (lq T n i).2.1) hT (by omega)
      split at h
      · next e2 =>
        rw [if_pos e2] at hq
        simp only [List.mem_singleton] at hq
        rw [hq]
        exact lq_isGood hT i0 i1 e1
      · next e2 =>
        rw [if_neg e2] at hq
        split at h
        · next e3 =>
          rw [if_pos e3] at hq
          simp only [List.mem_cons] at hq
          rcases hq with rfl | hq
          · exact lq_isGood hT i0 i1 e1
          · exact lr_good hT k _ (by omega) (by omega) h q hq
        · simp at h
    · simp at h
def lv_v (le : Int → Int) (cs : List Int) : Int := match lv_run le cs [] with
  | some (v :: _) => v
  | _ => 0
def lw_val (le : Int → Int) : List lq_C → Int
  | [] => 0
  | q :: r => if q.1 = true ∧ lv_v le q.2.1 = 0 then lw_val le r else lv_v le q.2.2
/-- within a million -/
def lb (x : Int) : Prop := -1000000 ≤ x ∧ x ≤ 1000000
def lbs (l : List Int) : Prop := ∀ x ∈ l, lb x
theorem lb_cl (x : Int) : lb (lv_cl x) := by unfold lv_cl lb; repeat' split <;> omega
theorem lb_j (w l r : Int) : lb (lv_j w l r) := by
  unfold lv_j
  have := lb_cl (l + r)
  have := lb_cl (l - r)
  have := lb_cl (l * r)
  have := lb_cl (Int.tdiv l r)
  repeat' split
  all_goals first | assumption | (unfold lb; omega)
theorem lb_mul {l r : Int} (h1 : lb l) (h2 : lb r) : -1000000000000 ≤ l * r ∧ l * r ≤ 1000000000000 := by
  unfold lb at h1 h2
  have h3 : (l * r).natAbs ≤ 1000000 * 1000000 := by
    rw [Int.natAbs_mul]
    exact Nat.mul_le_mul (by omega) (by omega)
  omega
theorem lb_div {l r : Int} (h1 : lb l) : lb (Int.tdiv l r) := by
  unfold lb at h1 ⊢
  have h3 : (Int.tdiv l r).natAbs ≤ l.natAbs := by
    rw [Int.natAbs_tdiv]
    exact Nat.div_le_self _ _
  omega
theorem lbs_step {le : Int → Int} {w : Int} {s t : List Int} (hle : ∀ j, 0 ≤ j → j < 6 → lb (le j)) (hs : lbs s) (h : lv_step le w s = some t) : lbs t := by
  unfold lv_step at h
  split at h
  · split at h
    · cases h
      intro x hx
      simp only [List.mem_cons] at hx
      rcases hx with rfl | hx
      · unfold lb; omega
      · exact hs x hx
    · simp at h
  · split at h
    · split at h
      · cases h
        intro x hx
        simp only [List.mem_cons] at hx
        rcases hx with rfl | hx
        · exact hle _ (by omega) (by omega)
        · exact hs x hx
      · simp at h
    · split at h
      · split at h
        · split at h
          · cases h
            next x r e =>
            intro y hy
            simp only [List.mem_cons] at hy
            rcases hy with rfl | hy
            · unfold lb; omega
            · exact hs y (by simp [hy])
          · simp at h
        · simp at h
      · split at h
        · split at h
          · split at h
            · cases h
              next x y r e =>
              intro z hz
              simp only [List.mem_cons] at hz
              rcases hz with rfl | hz
              · exact lb_j _ _ _
              · exact hs z (by simp [hz])
            · simp at h
          · simp at h
        · simp at h
/-- a code lies at p -/
def sg (st : Int → Int) : Int → List Int → Prop
  | _, [] => True
  | p, c :: r => st p = c ∧ sg st (p + 1) r
theorem sg_app {st : Int → Int} : ∀ {x y : List Int} {p : Int}, sg st p (x ++ y) ↔ sg st p x ∧ sg st (p + x.length) y
  | [], y, p => by simp [sg]
  | c :: r, y, p => by
    simp only [List.cons_append, sg, List.length_cons]
    rw [sg_app (x := r), show p + 1 + (r.length : Int) = p + ((r.length + 1 : Nat) : Int) by omega, and_assoc]
theorem lp_app_lt (st : Int → Int) : ∀ (y : List Int) (p q : Int), p < q → lp_app st q y p = st p
  | [], p, q, h => rfl
  | c :: r, p, q, h => by simp only [lp_app]; rw [lp_app_lt _ r p (q + 1) (by omega), sk_up_ne _ _ (by omega)]
theorem sg_of_app : ∀ (cs : List Int) (st : Int → Int) (p : Int), sg (lp_app st p cs) p cs
  | [], _, _ => trivial
  | c :: r, st, p => by
    simp only [lp_app, sg]
    exact ⟨by rw [lp_app_lt _ _ _ _ (by omega), sk_up_self], sg_of_app r _ _⟩
