/-! ===== the page within bounds, behind years and draws ===== -/
section ROK
variable {hold : Option (List lq_C)} {H R : Int → Int} {hands : Int}
theorem pg_fs9 {row yr h c : Int} (hH : xH H hands) (c0 : 0 ≤ c) (c1 : c < 40) : ∀ (n : Nat) (i : Int) (s : Int × (Int → Int)), 0 ≤ i → i + n ≤ 6 → 0 ≤ s.1 → s.1 ≤ i → (∀ j, 0 ≤ j → j < 240 → 0 ≤ s.2 j ∧ s.2 j < 2048) → (0 ≤ (sk_fd (x_fs hold H hands row yr h c) i n s).1 ∧ (sk_fd (x_fs hold H hands row yr h c) i n s).1 ≤ i + n) ∧ ∀ j, 0 ≤ j → j < 240 → 0 ≤ (sk_fd (x_fs hold H hands row yr h c) i n s).2 j ∧ (sk_fd (x_fs hold H hands row yr h c) i n s).2 j < 2048
  | 0, i, s, i0, i1, s0, s1, hs => ⟨⟨s0, by simp only [sk_fd]; omega⟩, hs⟩
  | n + 1, i, s, i0, i1, s0, s1, hs => by
    have fi := x_fad_in (hold := hold) (H := H) (hands := hands) (code := s.2 (6 * c + i)) (above := h - 1 - i) (row := row) (yr := yr) hH
    have b := hs (6 * c + i) (by omega) (by omega)
    simp only [sk_fd]
    by_cases e : 0 < s.2 (6 * c + i) % 16 - x_fad hold H hands (s.2 (6 * c + i)) (h - 1 - i) row yr
    · have e9 : x_fs hold H hands row yr h c i s = (s.1 + 1, sk_up s.2 (6 * c + s.1) (s.2 (6 * c + i) - s.2 (6 * c + i) % 16 + (s.2 (6 * c + i) % 16 - x_fad hold H hands (s.2 (6 * c + i)) (h - 1 - i) row yr))) := if_pos e
      rw [e9]
      have r := pg_fs9 (row := row) (yr := yr) (h := h) hH c0 c1 n (i + 1) (s.1 + 1, sk_up s.2 (6 * c + s.1) (s.2 (6 * c + i) - s.2 (6 * c + i) % 16 + (s.2 (6 * c + i) % 16 - x_fad hold H hands (s.2 (6 * c + i)) (h - 1 - i) row yr))) (by omega) (by omega) (by simp only []; omega) (by simp only []; omega) (fun j j0 j1 => by
        simp only []
        by_cases ej : j = 6 * c + s.1
        · rw [ej, sk_up_self]; omega
        · rw [sk_up_ne _ _ ej]; exact hs j j0 j1)
      exact ⟨by omega, r.2⟩
    · have e9 : x_fs hold H hands row yr h c i s = s := if_neg e
      rw [e9]
      have r := pg_fs9 (row := row) (yr := yr) (h := h) hH c0 c1 n (i + 1) s (by omega) (by omega) s0 (by omega) hs
      exact ⟨by omega, r.2⟩
theorem pg_fc {W yr c : Int} {s : (Int → Int) × (Int → Int) × Int} (hH : xH H hands) (c0 : 0 ≤ c) (c1 : c < 40) (h : pg_ok s.1 s.2.1) : pg_ok (x_fc hold H hands W yr c s).1 (x_fc hold H hands W yr c s).2.1 := by
  have b := h.2 c c0 c1
  have r := pg_fs9 (hold := hold) (row := c / W) (yr := yr) (h := s.2.1 c) hH c0 c1 (s.2.1 c).toNat 0 (0, s.1) (by omega) (by omega) (by simp) (by simp) h.1
  refine ⟨r.2, ?_⟩
  show ∀ j, 0 ≤ j → j < 40 → 0 ≤ sk_up s.2.1 c _ j ∧ sk_up s.2.1 c _ j ≤ 6
  intro j j0 j1
  by_cases e : j = c
  · rw [e, sk_up_self]; omega
  · rw [sk_up_ne _ _ e]; exact h.2 j j0 j1
theorem pg_yr {ye : Int} {ly hs : Int → Int} (hH : xH H hands) (c1 : R 0 * R 1 ≤ 40) (h : pg_ok ly hs) : pg_ok (x_yr hold H R hands ye ly hs).1 (x_yr hold H R hands ye ly hs).2.1 := sk_fd_inv (I := fun (s : (Int → Int) × (Int → Int) × Int) => pg_ok s.1 s.2.1) _ 0 _ (fun j s j0 j1 hs => pg_fc hH j0 (by omega) hs) h
theorem pg_ldf {W spot hd ink : Int} {sg ln pl : Int → Int} {n : Nat} {s : (Int → Int) × (Int → Int)} (hi : ∀ k, 0 ≤ k → k < (n : Int) → 0 ≤ xw W ln pl spot k ∧ xw W ln pl spot k < 40) (hg : ∀ k, 0 ≤ k → k < (n : Int) → 0 ≤ sg k ∧ sg k ≤ 26) (h0 : 0 ≤ hd) (h1 : hd < 4) (i0 : 0 ≤ ink) (i1 : ink < 16) (h : pg_ok s.1 s.2) : pg_ok (sk_fd (x_ld W sg ln pl spot hd ink) 0 n s).1 (sk_fd (x_ld W sg ln pl spot hd ink) 0 n s).2 := sk_fd_inv (I := fun (s : (Int → Int) × (Int → Int)) => pg_ok s.1 s.2) n 0 s (fun j s j0 j1 hs => x_ld_ok hs (hi j j0 (by omega)).1 (hi j j0 (by omega)).2 (hg j j0 (by omega)).1 (hg j j0 (by omega)).2 h0 h1 i0 i1) h
theorem pg_sd {s : x_W} (hru : ru_ok (R 0) (R 1)) (h2 : 2 ≤ R 0) (h : pg_ok s.2.1 s.2.2) : pg_ok (x_sd R s).2.1 (x_sd R s).2.2 := by
  have hR : 2 ≤ R 0 ∧ R 0 ≤ 8 ∧ 1 ≤ R 1 ∧ R 1 ≤ 5 := by rcases hru with h | h <;> omega
  unfold x_sd
  split
  · exact h
  · have d := dw_in (nx (nx s.1)) (j := R 1) (by omega) (by omega)
    have r0 : 0 ≤ dw (nx (nx s.1)) (R 1) * R 0 ∧ dw (nx (nx s.1)) (R 1) * R 0 + R 0 ≤ 40 := by
      generalize dw (nx (nx s.1)) (R 1) = r at *
      have : r = 0 ∨ r = 1 ∨ r = 2 ∨ r = 3 ∨ r = 4 := by omega
      rcases this with rfl | rfl | rfl | rfl | rfl <;> omega
    exact sk_fd_ok h r0.1 r0.2
end ROK
