/-! ===== both sides: laws taken ===== -/
section RLAW
variable {x : Int} {cd vl cds : Int → Int}
theorem mlZ_lo : ∀ (qs : List lq_C) (Y : Nat → Int → Int) (q c j : Int), j < 140 * x + q → mlZ x Y q c qs 6 j = Y 6 j ∧ mlZ x Y q c qs 7 j = Y 7 j ∧ mlZ x Y q c qs 8 j = Y 8 j
  | [], _, _, _, _, _ => ⟨rfl, rfl, rfl⟩
  | k :: r, Y, q, c, j, h => by
    simp only [mlZ]
    have ih := mlZ_lo r (mlZ1 x Y q c k) (q + 1) (c + (k.2.1 ++ k.2.2).length) j (by omega)
    refine ⟨ih.1.trans ?_, ih.2.1.trans ?_, ih.2.2.trans ?_⟩
    · show sk_up (Y 6) (140 * x + q) c j = Y 6 j
      exact sk_up_ne _ _ (by omega)
    · show sk_up (Y 7) (140 * x + q) _ j = Y 7 j
      exact sk_up_ne _ _ (by omega)
    · show sk_up (Y 8) (140 * x + q) _ j = Y 8 j
      exact sk_up_ne _ _ (by omega)
theorem mlZ_mla : ∀ (qs : List lq_C) (Y : Nat → Int → Int) (m c : Int), Y 5 x = m → sg cd (520 * x + c) ((lfl qs).map (fun z => z % 16)) → sg vl (520 * x + c) ((lfl qs).map (fun z => z / 16)) → mla (mY (mlZ x Y m c qs) cd vl cds) x m c qs
  | [], Y, m, c, h, _, _ => h
  | k :: r, Y, m, c, h, h2, h3 => by
    simp only [lfl, List.map_append] at h2 h3
    rw [← List.map_append] at h2 h3
    rw [sg_app] at h2 h3
    have e : ((k.2.1 ++ k.2.2).map (fun z : Int => z % 16)).length = (k.2.1 ++ k.2.2).length := List.length_map _
    have e' : ((k.2.1 ++ k.2.2).map (fun z : Int => z / 16)).length = (k.2.1 ++ k.2.2).length := List.length_map _
    rw [e] at h2
    rw [e'] at h3
    have lo := mlZ_lo (x := x) r (mlZ1 x Y m c k) (m + 1) (c + (k.2.1 ++ k.2.2).length) (140 * x + m) (by omega)
    simp only [mla, mlZ]
    refine ⟨?_, ?_, ?_, h2.1, h3.1, mlZ_mla r (mlZ1 x Y m c k) (m + 1) (c + (k.2.1 ++ k.2.2).length) ?_ (by rw [← Int.add_assoc]; exact h2.2) (by rw [← Int.add_assoc]; exact h3.2)⟩
    · refine lo.1.trans ?_
      show sk_up (Y 6) (140 * x + m) c (140 * x + m) = c
      exact sk_up_self _ _ _
    · refine lo.2.1.trans ?_
      show sk_up (Y 7) (140 * x + m) _ (140 * x + m) = _
      exact sk_up_self _ _ _
    · refine lo.2.2.trans ?_
      show sk_up (Y 8) (140 * x + m) _ (140 * x + m) = _
      exact sk_up_self _ _ _
    · show sk_up (Y 5) x (m + 1) x = m + 1
      exact sk_up_self _ _ _
theorem sg_c {st st' : Int → Int} : ∀ (l : List Int) (p : Int), (∀ j, p ≤ j → j < p + l.length → st' j = st j) → sg st p l → sg st' p l
  | [], _, _, _ => trivial
  | c :: r, p, h, hs => by
    simp only [sg, List.length_cons] at hs h ⊢
    push_cast at h
    exact ⟨(h p (by omega) (by omega)).trans hs.1, sg_c r (p + 1) (fun j j0 j1 => h j (by omega) (by omega)) hs.2⟩
/-- a law is told as it was -/
def lsm' (x' : Int) (Y Y' : Nat → Int → Int) : Prop := Y' 5 x' = Y 5 x' ∧ (∀ j, 140 * x' ≤ j → j < 140 * x' + 140 → Y' 6 j = Y 6 j ∧ Y' 7 j = Y 7 j ∧ Y' 8 j = Y 8 j) ∧ ∀ j, 520 * x' ≤ j → j < 520 * x' + 520 → Y' 2 j = Y 2 j ∧ Y' 3 j = Y 3 j
theorem mla_keep {Y Y' : Nat → Int → Int} (h : lsm' x Y Y') : ∀ {qs : List lq_C} {m c : Int}, 0 ≤ m → m + qs.length ≤ 140 → 0 ≤ c → c + (lfl qs).length ≤ 520 → mla Y x m c qs → mla Y' x m c qs
  | [], m, c, _, _, _, _, hm => h.1.trans hm
  | k :: r, m, c, m0, m1, c0, c1, hm => by
    simp only [mla] at hm ⊢
    simp only [lfl, List.length_cons, List.length_append] at m1 c1
    push_cast at m1 c1
    have q := h.2.1 (140 * x + m) (by omega) (by omega)
    refine ⟨q.1.trans hm.1, q.2.1.trans hm.2.1, q.2.2.trans hm.2.2.1, sg_c _ _ (fun j j0 j1 => ?_) hm.2.2.2.1, sg_c _ _ (fun j j0 j1 => ?_) hm.2.2.2.2.1, mla_keep h (by omega) (by omega) (by omega) ?_ hm.2.2.2.2.2⟩
    · simp only [List.length_map, List.length_append] at j1
      push_cast at j1
      exact (h.2.2 j (by omega) (by omega)).1
    · simp only [List.length_map, List.length_append] at j1
      push_cast at j1
      exact (h.2.2 j (by omega) (by omega)).2
    · simp only [List.length_append]
      push_cast
      omega
theorem rq_lsm {w x' : Int} {S S' : Nat → Int} {Y Y' : Nat → Int → Int} (h : rq x w S Y S' Y') (hx : x' < x) : lsm' x' Y Y' := ⟨(h.2.2.1 x' (by omega)).2, fun j j0 j1 => h.2.2.2.2.1 j (by omega), fun j j0 j1 => h.2.2.2.1 j (by omega)⟩
/-- lengths of what is read -/
theorem lq_e_fl (p : Int) {q : lq_C} (h : q.1 = false → q.2.1 = []) : (q.2.1 ++ q.2.2).length ≤ (lq_e p q).length := by
  unfold lq_e
  by_cases e : q.1 = true
  · rw [if_pos e]
    simp only [List.length_append, List.length_cons, List.length_nil]
    omega
  · rw [if_neg e, h (by simpa using e)]
    simp only [List.length_append, List.length_cons, List.length_nil]
    omega
theorem lfl_e : ∀ (qs : List lq_C) (p : Int), (∀ q ∈ qs, lq_good q) → (lfl qs).length ≤ (lr_e p qs).length
  | [], p, _ => by simp [lfl]
  | q :: r, p, h => by
    have a := lq_e_fl p (h q (by simp)).2.2
    have b := lfl_e r (p + (lq_e p q).length) (fun z hz => h z (by simp [hz]))
    simp only [lfl, lr_e, List.length_append] at a ⊢
    omega
theorem lr_len {T : Int → Int} {n : Int} (hT : tp_ok T n) : ∀ (k : Nat) (i p : Int), 0 ≤ i → i ≤ n → ((lr_e p (lr T n k i).2.2).length : Int) ≤ n - i
  | 0, i, p, i0, i1 => by simp only [lr, lr_e, List.length_nil]; omega
  | k + 1, i, p, i0, i1 => by
    have hin := lq_in hT i0 i1 p
    have k1 := tp_skip_ge T n (lq T n i).2.1
    have k2 := tp_skip_le T hin.2.1
    have k3 := tp_ch_in (i := tp_skip T n (lq T n i).2.1) hT (by omega)
    simp only [lr]
    split
    · next e1 =>
      have := hin.2.2 e1
      split
      · simp only [lr_e, List.length_append, List.length_nil]; omega
      · split
        · have := lr_len hT k (tp_skip T n (lq T n i).2.1 + 1) (p + (lq_e p (lq T n i).2.2).length) (by omega) (by omega)
          simp only [lr_e, List.length_append]; omega
        · simp only [lr_e, List.length_nil]; omega
    · simp only [lr_e, List.length_nil]; omega
/-- a law taken by the reference -/
theorem tkl_mla {S S' : Nat → Int} {Y Y' : Nat → Int → Int} {qs : List lq_C} {i : Int} (h : tkl S Y qs i S' Y') : mla Y' (S 13) 0 0 qs := by
  obtain ⟨-, rfl⟩ := h
  refine mlZ_mla qs _ 0 0 ?_ ?_ ?_
  · show sk_up (Y 5) (S 13) 0 (S 13) = 0
    exact sk_up_self _ _ _
  · rw [Int.add_zero]; exact sg_of_app _ _ _
  · rw [Int.add_zero]; exact sg_of_app _ _ _
theorem tkl_keep {S S' : Nat → Int} {Y Y' : Nat → Int → Int} {qs : List lq_C} {i : Int} (h : tkl S Y qs i S' Y') (hq : qs.length ≤ 140) : (∀ k, k ≠ 2 → k ≠ 3 → k ≠ 4 → k ≠ 5 → k ≠ 6 → k ≠ 7 → k ≠ 8 → Y' k = Y k) ∧ ∀ x', x' < S 13 → lsm' x' Y Y' := by
  obtain ⟨-, rfl⟩ := h
  have hz : clz (S 13) Y (mlZ (S 13) (va_up Y 5 (sk_up (Y 5) (S 13) 0)) 0 0 qs) := mlZ_clz clz_5 (by omega) (by omega)
  refine ⟨fun k k2 k3 k4 k5 k6 k7 k8 => ?_, fun x' hx => ⟨hz.2.1 x' (by omega), fun j j0 j1 => ?_, fun j j0 j1 => ⟨?_, ?_⟩⟩⟩
  · unfold mY
    simp only [k2, k3, k4, if_false]
    exact hz.1 k k5 k6 k7 k8
  · exact hz.2.2 j (Or.inl (by omega))
  · exact lp_app_lt _ _ _ _ (by omega)
  · exact lp_app_lt _ _ _ _ (by omega)
theorem tkl_S {S S' : Nat → Int} {Y Y' : Nat → Int → Int} {qs : List lq_C} {i : Int} (h : tkl S Y qs i S' Y') : S' 13 = S 13 + 1 ∧ S' 2 = 0 ∧ ∀ j, j ≠ 2 → j ≠ 3 → j ≠ 4 → j ≠ 5 → j ≠ 13 → j ≠ 14 → S' j = S j := by
  obtain ⟨rfl, -⟩ := h
  refine ⟨va_up_self _ _ _, ?_, fun j a b c d e f => ?_⟩
  · rw [va_up_ne _ _ (by decide)]; exact va_up_self _ _ _
  · rw [va_up_ne _ _ e, va_up_ne _ _ a]
    unfold mS
    rw [if_neg b, if_neg c, if_neg d, va_up_ne _ _ f]
/-- a law taken by the class -/
theorem lx_new {T st lf kk : Int → Int} {n top : Int} {M : sk_M} {a : Nat} (hT : tp_ok T n) (e : (lr T n 300 0).1 = true) (h : lwo M a (a + 1) (a + 2) (a + 3) (lr_e 0 (lr T n 300 0).2.2).length top (lp_app st 0 (lr_e 0 (lr T n 300 0).2.2)) lf kk) : lx M a (lr T n 300 0).2.2 := ⟨_, _, _, _, _, h, by have := lr_len hT 300 0 0 (by omega) hT.1; have := hT.2.1; omega, rfl, sg_of_app _ _ _, lr_good hT 300 0 (by omega) hT.1 e⟩
end RLAW
