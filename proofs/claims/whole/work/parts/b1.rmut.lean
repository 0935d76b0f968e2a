/-! ===== the page and the row: what is done to both ===== -/
theorem mc3_at {a b : Int} {nw : Int → Int} : mc3 a b nw (40 + 3 * b + 0) = nw (40 + 3 * a + 0) ∧ mc3 a b nw (40 + 3 * b + 1) = nw (40 + 3 * a + 1) ∧ mc3 a b nw (40 + 3 * b + 2) = nw (40 + 3 * a + 2) := by
  unfold mc3
  simp only [sk_fd, Int.zero_add]
  refine ⟨?_, ?_, ?_⟩
  · rw [sk_up_ne _ _ (by omega), sk_up_ne _ _ (by omega), sk_up_self]
  · rw [sk_up_ne _ _ (by omega), sk_up_self, sk_up_ne _ _ (by omega)]
  · rw [show (1 : Int) + 1 = 2 from rfl, sk_up_self, sk_up_ne _ _ (by omega), sk_up_ne _ _ (by omega)]
theorem mc3_id {a : Int} {nw : Int → Int} : mc3 a a nw = nw := by
  unfold mc3
  simp only [sk_fd]
  rw [sk_up_same rfl, sk_up_same rfl, sk_up_same rfl]
theorem prc_mv {hands : Int} {ly hs nw ly' hs' nw' : Int → Int} {c : Int} (h : prc hands ly hs nw c) (e1 : hs' c = hs c) (e2 : nw' c = nw c) (e3 : ∀ i, 0 ≤ i → i < 6 → ly' (6 * c + i) = ly (6 * c + i)) (e4 : ∀ j, 40 + 18 * c ≤ j → j < 40 + 18 * c + 18 → nw' j = nw j) : prc hands ly' hs' nw' c := by
  obtain ⟨p1, p2, p3, p4⟩ := h
  refine ⟨by rw [e2, e1, p1], by rw [e1]; exact p2, by rw [e1]; exact p3, fun i i0 i1 => ?_⟩
  rw [e1] at i1
  obtain ⟨q1, q2, q3, q4⟩ := p4 i i0 i1
  have k := e3 i i0 (by omega)
  have f1 : a_t6 ly' c i = a_t6 ly c i := by unfold a_t6; rw [k]
  have f2 : a_h6 ly' c i = a_h6 ly c i := by unfold a_h6; rw [k]
  have f3 : a_s6 ly' c i = a_s6 ly c i := by unfold a_s6; rw [k]
  rw [f1, f2, f3]
  refine ⟨?_, ?_, ?_, q4⟩
  · rw [← q1]; unfold mt; exact e4 _ (by omega) (by omega)
  · rw [← q2]; unfold mh; exact e4 _ (by omega) (by omega)
  · rw [← q3]; unfold ms; exact e4 _ (by omega) (by omega)
/-- a strength changed within a code -/
theorem code_w {q v : Int} (v0 : 0 ≤ v) (v1 : v < 16) : (q - q % 16 + v) / 64 = q / 64 ∧ (q - q % 16 + v) / 16 % 4 = q / 16 % 4 ∧ (q - q % 16 + v) % 16 = v := by omega
/-! scraping -/
theorem m_st_0 (l : Int) : ∀ (n : Nat) (nw : Int → Int), (∀ k : Nat, k < n → 0 ≤ nw (40 + 3 * (6 * l + k) + 2)) → m_st l n 0 nw = nw
  | 0, nw, _ => rfl
  | n + 1, nw, h => by
    simp only [m_st]
    have e : sk_min 0 (nw (40 + 3 * (6 * l + n) + 2)) = 0 := by have := h n (by omega); unfold sk_min; split <;> omega
    rw [e, Int.sub_zero, Int.sub_zero, sk_up_same rfl]
    exact m_st_0 l n nw (fun k hk => h k (by omega))
theorem m_st_sc (l : Int) (s : Int → Int) : ∀ (n : Nat) (left : Int) (nw : Int → Int), n ≤ 6 → 0 ≤ left → (∀ k : Nat, k < n → nw (40 + 3 * (6 * l + k) + 2) = s k ∧ 1 ≤ s k) → (0 ≤ (a_sc s n left).1 ∧ (a_sc s n left).1 ≤ n ∧ (0 < (a_sc s n left).1 → 1 ≤ (a_sc s n left).2 ∧ (a_sc s n left).2 ≤ s ((a_sc s n left).1 - 1))) ∧ (∀ k : Nat, k < n → m_st l n left nw (40 + 3 * (6 * l + k) + 2) = if (k : Int) < (a_sc s n left).1 - 1 then s k else if (k : Int) = (a_sc s n left).1 - 1 then (a_sc s n left).2 else 0) ∧ ∀ j, (∀ k : Nat, k < n → j ≠ 40 + 3 * (6 * l + k) + 2) → m_st l n left nw j = nw j
  | 0, left, nw, _, _, _ => ⟨⟨by simp [a_sc], by simp [a_sc], fun h => by simp [a_sc] at h⟩, fun k hk => by omega, fun j _ => rfl⟩
  | n + 1, left, nw, h6, l0, hs => by
    have hn := hs n (by omega)
    simp only [m_st]
    by_cases e1 : left ≤ 0
    · have e0 : left = 0 := by omega
      subst e0
      have mz : sk_min 0 (nw (40 + 3 * (6 * l + n) + 2)) = 0 := by unfold sk_min; split <;> omega
      have ea : a_sc s (n + 1) 0 = ((n : Int) + 1, s n) := by simp only [a_sc]; rw [if_pos e1]
      rw [ea, mz, Int.sub_zero, Int.sub_zero, sk_up_same rfl, m_st_0 l n nw (fun k hk => by have := hs k (by omega); omega)]
      refine ⟨⟨by (try simp only []); omega, by (try simp only []); omega, fun _ => ?_⟩, fun k hk => ?_, fun j _ => rfl⟩
      · try simp only []
        rw [show ((n : Int) + 1 - 1) = n by omega]
        omega
      · try simp only []
        rw [(hs k hk).1]
        by_cases q : k < n
        · rw [if_pos (by omega)]
        · have : k = n := by omega
          subst this
          rw [if_neg (by omega), if_pos (by omega)]
    · by_cases e2 : left < s n
      · have mz : sk_min left (nw (40 + 3 * (6 * l + n) + 2)) = left := by rw [hn.1]; unfold sk_min; split <;> omega
        have ea : a_sc s (n + 1) left = ((n : Int) + 1, s n - left) := by simp only [a_sc]; rw [if_neg e1, if_pos e2]
        rw [ea, mz, Int.sub_self, hn.1]
        have hst := m_st_0 l n (sk_up nw (40 + 3 * (6 * l + n) + 2) (s n - left)) (fun k hk => by rw [sk_up_ne _ _ (by omega)]; have := hs k (by omega); omega)
        rw [hst]
        refine ⟨⟨by (try simp only []); omega, by (try simp only []); omega, fun _ => ?_⟩, fun k hk => ?_, fun j hj => ?_⟩
        · try simp only []
          rw [show ((n : Int) + 1 - 1) = n by omega]
          omega
        · try simp only []
          by_cases q : k < n
          · rw [if_pos (by omega), sk_up_ne _ _ (by omega)]; exact (hs k hk).1
          · have : k = n := by omega
            subst this
            rw [if_neg (by omega), if_pos (by omega), sk_up_self]
        · exact sk_up_ne _ _ (hj n (by omega))
      · have mz : sk_min left (nw (40 + 3 * (6 * l + n) + 2)) = s n := by rw [hn.1]; unfold sk_min; split <;> omega
        have ea : a_sc s (n + 1) left = a_sc s n (left - s n) := by simp only [a_sc]; rw [if_neg e1, if_neg e2]
        rw [ea, mz, hn.1, Int.sub_self]
        obtain ⟨⟨i1, i2, i3⟩, i4, i5⟩ := m_st_sc l s n (left - s n) (sk_up nw (40 + 3 * (6 * l + n) + 2) 0) (by omega) (by omega) (fun k hk => by rw [sk_up_ne _ _ (by omega)]; exact hs k (by omega))
        refine ⟨⟨i1, by push_cast; omega, i3⟩, fun k hk => ?_, fun j hj => ?_⟩
        · by_cases q : k < n
          · exact i4 k q
          · have : k = n := by omega
            subst this
            rw [i5 _ (fun k' hk' => by omega), sk_up_self, if_neg (by omega), if_neg (by omega)]
        · rw [i5 j (fun k hk => hj k (by omega)), sk_up_ne _ _ (hj n (by omega))]
/-- cleaning where the upper ones alone are gone -/
theorem m_cl_pre (l : Int) (r : Int) : ∀ (n : Nat) (i t : Int) (nw : Int → Int), 0 ≤ i → 0 ≤ r → t = (if i ≤ r then i else r) → (∀ k, i ≤ k → k < i + n → (k < r → 0 < nw (40 + 3 * (6 * l + k) + 2)) ∧ (r ≤ k → nw (40 + 3 * (6 * l + k) + 2) ≤ 0)) → sk_fd (m_cl l) i n (t, nw) = ((if i + n ≤ r then i + n else r), nw)
  | 0, i, t, nw, i0, r0, ht, _ => by simp only [sk_fd, ht]; simp
  | n + 1, i, t, nw, i0, r0, ht, h => by
    simp only [sk_fd]
    have hi := h i (by omega) (by omega)
    have e1 : m_cl l i (t, nw) = ((if i + 1 ≤ r then i + 1 else r), nw) := by
      unfold m_cl
      by_cases q : i < r
      · have := hi.1 q
        have ti : t = i := by rw [ht, if_pos (by omega)]
        try simp only []
        rw [if_pos this, if_pos (by omega), ti, mc3_id]
      · have := hi.2 (by omega)
        try simp only []
        rw [if_neg (by omega), if_neg (by omega)]
        have : t = r := by rw [ht]; split <;> omega
        rw [this]
    rw [e1, m_cl_pre l r n (i + 1) _ nw (by omega) r0 rfl (fun k a b => h k (by omega) (by push_cast; omega))]
    have e2 : i + 1 + (n : Int) = i + ((n + 1 : Nat) : Int) := by push_cast; omega
    rw [e2]
section RMUT
variable {cells hands : Int} {ly hs nw : Int → Int} {c n : Int}
theorem pr_sc1 (h : prc hands ly hs nw c) (c0 : 0 ≤ c) (c1 : c < 40) (n0 : 0 ≤ n) (acc acc' : Int) : prc hands (x_sc n c (ly, hs, acc)).1 (x_sc n c (ly, hs, acc)).2.1 (m_sc n c (nw, acc')).1 c ∧ (x_sc n c (ly, hs, acc)).2.2 - acc = (m_sc n c (nw, acc')).2 - acc' := by
  obtain ⟨p1, p2, p3, p4⟩ := id h
  obtain ⟨hn, ehn⟩ : ∃ hn : Nat, hs c = hn := ⟨(hs c).toNat, by omega⟩
  have en : (hs c).toNat = hn := by omega
  obtain ⟨⟨a1, a2, a3⟩, a4, a5⟩ := m_st_sc c (a_s6 ly c) hn n nw (by omega) n0 (fun k hk => by
    obtain ⟨q1, q2, q3, q4, q5, q6, -⟩ := p4 k (by omega) (by omega)
    exact ⟨q3, q6⟩)
  obtain ⟨r, hr⟩ : ∃ r, r = a_sc (a_s6 ly c) hn n := ⟨_, rfl⟩
  rw [← hr] at a1 a2 a3 a4
  have ecl : m_cln c (m_st c hn n nw) = (r.1, m_st c hn n nw) := by
    unfold m_cln
    rw [m_st_l c c0 _ _ _ _ c1, p1, en]
    have := m_cl_pre c r.1 hn 0 0 (m_st c hn n nw) (by omega) a1 (by rw [if_pos a1]) (fun k k0 k1 => by
      obtain ⟨k', rfl⟩ : ∃ k' : Nat, k = k' := ⟨k.toNat, by omega⟩
      have hk := a4 k' (by omega)
      rw [hk]
      refine ⟨fun q => ?_, fun q => ?_⟩
      · by_cases z : (k' : Int) < r.1 - 1
        · rw [if_pos z]; exact (p4 k' (by omega) (by omega)).2.2.2.2.2.1
        · rw [if_neg z, if_pos (by omega)]; have := a3 (by omega); omega
      · rw [if_neg (by omega), if_neg (by omega)]; omega)
    rw [this]
    by_cases z : 0 + (hn : Int) ≤ r.1
    · rw [if_pos z, show (0 : Int) + hn = r.1 by omega]
    · rw [if_neg z]
  have em : m_sc n c (nw, acc') = (sk_up (m_st c hn n nw) c r.1, acc' + (nw c - r.1)) := by
    unfold m_sc
    try simp only []
    rw [p1, en, ecl]
  have ex : x_sc n c (ly, hs, acc) = (a_scl ly c r, sk_up hs c r.1, acc + (hs c - r.1)) := by
    unfold x_sc
    try simp only []
    rw [en, ← hr]
  rw [em, ex]
  refine ⟨⟨by (try simp only []); rw [sk_up_self, sk_up_self], by (try simp only []); rw [sk_up_self]; exact a1, by (try simp only []); rw [sk_up_self]; omega, fun i i0 i1 => ?_⟩, by (try simp only []); omega⟩
  try simp only [] at i1 ⊢
  rw [sk_up_self] at i1
  obtain ⟨i', rfl⟩ : ∃ i' : Nat, i = i' := ⟨i.toNat, by omega⟩
  obtain ⟨q1, q2, q3, q4, q5, q6, q7⟩ := p4 i' (by omega) (by omega)
  have u0 : mt (sk_up (m_st c hn n nw) c r.1) c i' = mt nw c i' := by unfold mt; rw [sk_up_ne _ _ (by omega)]; exact a5 _ (fun k hk => by omega)
  have u1 : mh (sk_up (m_st c hn n nw) c r.1) c i' = mh nw c i' := by unfold mh; rw [sk_up_ne _ _ (by omega)]; exact a5 _ (fun k hk => by omega)
  have u2 : ms (sk_up (m_st c hn n nw) c r.1) c i' = if (i' : Int) < r.1 - 1 then a_s6 ly c i' else if (i' : Int) = r.1 - 1 then r.2 else 0 := by unfold ms; rw [sk_up_ne _ _ (by omega)]; exact a4 i' (by omega)
  rw [u0, u1, u2]
  have a3' := a3 (by omega)
  have sl : a_scl ly c r = sk_up ly (6 * c + (r.1 - 1)) (ly (6 * c + (r.1 - 1)) - ly (6 * c + (r.1 - 1)) % 16 + r.2) := by unfold a_scl; rw [if_neg (by omega)]
  have sle := a_s6_in ly c (r.1 - 1)
  by_cases z : (i' : Int) < r.1 - 1
  · rw [if_pos z]
    have e : a_scl ly c r (6 * c + i') = ly (6 * c + i') := by rw [sl, sk_up_ne _ _ (by omega)]
    have f1 : a_t6 (a_scl ly c r) c i' = a_t6 ly c i' := by unfold a_t6; rw [e]
    have f2 : a_h6 (a_scl ly c r) c i' = a_h6 ly c i' := by unfold a_h6; rw [e]
    have f3 : a_s6 (a_scl ly c r) c i' = a_s6 ly c i' := by unfold a_s6; rw [e]
    rw [f1, f2, f3]
    exact ⟨q1, q2, rfl, q4, q5, q6, q7⟩
  · have zi : (i' : Int) = r.1 - 1 := by omega
    rw [if_neg z, if_pos zi]
    have e : a_scl ly c r (6 * c + i') = ly (6 * c + i') - ly (6 * c + i') % 16 + r.2 := by rw [sl, zi, sk_up_self]
    rw [zi] at q6 q7
    have cw := code_w (q := ly (6 * c + i')) (v := r.2) (by omega) (by omega)
    have f1 : a_t6 (a_scl ly c r) c i' = a_t6 ly c i' := by unfold a_t6; rw [e]; exact cw.1
    have f2 : a_h6 (a_scl ly c r) c i' = a_h6 ly c i' := by unfold a_h6; rw [e]; exact cw.2.1
    have f3 : a_s6 (a_scl ly c r) c i' = r.2 := by unfold a_s6; rw [e]; exact cw.2.2
    rw [f1, f2, f3]
    exact ⟨q1, q2, rfl, q4, q5, by omega, by omega⟩
theorem x_sc_out {acc j : Int} (hj : j < 6 * c ∨ 6 * c + 6 ≤ j) (h6 : hs c ≤ 6) : (x_sc n c (ly, hs, acc)).1 j = ly j := by
  unfold x_sc
  try simp only []
  unfold a_scl
  split
  · rfl
  · have : ∀ (s : Int → Int) (m : Nat) (l : Int), (a_sc s m l).1 ≤ m := by
      intro s m
      induction m with
      | zero => intro l; simp [a_sc]
      | succ m ih =>
        intro l
        simp only [a_sc]
        split
        · simp
        · split
          · simp
          · have := ih (l - s m); push_cast; omega
    have k := this (a_s6 ly c) (hs c).toNat n
    exact sk_up_ne _ _ (by omega)
theorem pr_sc (h : pr cells hands ly hs nw) (c0 : 0 ≤ c) (c1 : c < 40) (n0 : 0 ≤ n) (acc acc' : Int) : pr cells hands (x_sc n c (ly, hs, acc)).1 (x_sc n c (ly, hs, acc)).2.1 (m_sc n c (nw, acc')).1 ∧ (x_sc n c (ly, hs, acc)).2.2 - acc = (m_sc n c (nw, acc')).2 - acc' := by
  have k := pr_sc1 (h.1 c c0 c1) c0 c1 n0 acc acc'
  have hc := h.1 c c0 c1
  have eh : ∀ j, j ≠ c → (x_sc n c (ly, hs, acc)).2.1 j = hs j := fun j hj => by unfold x_sc; exact sk_up_ne _ _ hj
  refine ⟨⟨fun c' a b => ?_, fun c' a b => ?_⟩, k.2⟩
  · by_cases e : c' = c
    · rw [e]; exact k.1
    · refine prc_mv (h.1 c' a b) (eh c' e) (m_sc_out c0 c1 (by (try simp only []); have := hc.1; have := hc.2.2.1; omega) e (by omega)) (fun i i0 i1 => x_sc_out (by omega) hc.2.2.1) (fun j j0 j1 => m_sc_out c0 c1 (by (try simp only []); have := hc.1; have := hc.2.2.1; omega) (by omega) (by omega))
  · by_cases e : c' = c
    · have z := h.2 c' a b
      rw [e] at z ⊢
      have k1 := k.1.2.1
      have : (x_sc n c (ly, hs, acc)).2.1 c = 0 := by
        unfold x_sc
        try simp only []
        rw [sk_up_self, z]
        rfl
      exact this
    · rw [eh c' e]; exact h.2 c' a b
end RMUT
