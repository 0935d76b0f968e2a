/-! ===== the page and the row: a year with its log; writings written ===== -/
theorem x_log_at {f : Int → Int} {lo g s t : Int} {N b : Int} (b0 : 0 ≤ b) (b2 : b ≤ 2) (hN : N % 100 ≠ lo % 100) : x_log f lo g s t (N % 100 * 3 + b) = f (N % 100 * 3 + b) := by
  unfold x_log
  rw [sk_up_ne _ _ (by omega), sk_up_ne _ _ (by omega), sk_up_ne _ _ (by omega)]
theorem x_log_new {f : Int → Int} {lo g s t : Int} : x_log f lo g s t (lo % 100 * 3 + 0) = g ∧ x_log f lo g s t (lo % 100 * 3 + 1) = s ∧ x_log f lo g s t (lo % 100 * 3 + 2) = t := by
  unfold x_log
  refine ⟨?_, ?_, ?_⟩
  · rw [sk_up_ne _ _ (by omega), sk_up_ne _ _ (by omega), Int.add_zero, sk_up_self]
  · rw [sk_up_ne _ _ (by omega), sk_up_self]
  · rw [sk_up_self]
section RLOG
variable {hold : Option (List lq_C)} {H Hd : Int → Int} {cells hands : Int} {ly hs nw R R' f : Int → Int} {co ye lo ll : Int}
def ysum (hold : Option (List lq_C)) (H R : Int → Int) (hands ye : Int) (ly hs f : Int → Int) (lo : Int) : Int → Int := x_log f lo (x_yr hold H R hands ye ly hs).2.2 (sk_sm (a_str (x_yr hold H R hands ye ly hs).1 (x_yr hold H R hands ye ly hs).2.1) 0 4) (sk_sm (x_ct (x_yr hold H R hands ye ly hs).1 (x_yr hold H R hands ye ly hs).2.1 (R 2) 7) 0 (R 0 * R 1).toNat)
theorem pr_py (h : pr cells hands ly hs nw) (hl : lrel f lo ll nw) (hc : cells = R 0 * R 1) (hR0 : R' 0 = R 0) (hR2 : R' 2 = R 2) (c0 : 0 ≤ cells) (c1 : cells ≤ 40) (h0 : 0 ≤ hands) (h4 : hands ≤ 4) (hH : xH H hands) (hHd : ∀ j, 0 ≤ j → j < 2 * hands → Hd j = H j) (e0 : nw 760 = co) (e1 : nw 761 = ye) (e2 : nw 762 = ll) (l0 : 0 ≤ ll) (l1 : ll ≤ 60) : pr cells hands (x_yr hold H R hands ye ly hs).1 (x_yr hold H R hands ye ly hs).2.1 (m_py hold Hd R' cells hands nw) ∧ lrel (ysum hold H R hands ye ly hs f lo) (lo + 1) (sk_min 60 (ll + 1)) (m_py hold Hd R' cells hands nw) ∧ m_py hold Hd R' cells hands nw 760 = co ∧ m_py hold Hd R' cells hands nw 761 = ye + 1 ∧ m_py hold Hd R' cells hands nw 762 = sk_min 60 (ll + 1) := by
  have hn6 : hs6 nw := fun c a b => by have := h.1 c a b; rw [this.1]; exact ⟨this.2.1, this.2.2.1⟩
  have at3 := m_py_at (hold := hold) (Hd := Hd) (R := R') (cells := cells) (hands := hands) hn6 c0 c1 (by omega) (by omega)
  have ls := pr_ls (hold := hold) (Hd := Hd) (H := H) (R := R) (ye := ye) h hc c0 c1 hH hHd e1
  have lsh := m_ls_hi (hold := hold) (Hd := Hd) (W := R 0) (cells := cells) hn6 c0 c1
  obtain ⟨X, hX⟩ : ∃ X, X = x_yr hold H R hands ye ly hs := ⟨_, rfl⟩
  obtain ⟨L, hL⟩ : ∃ L, L = m_ls hold Hd (R 0) cells nw := ⟨_, rfl⟩
  obtain ⟨n1, hn1⟩ : ∃ n1, n1 = m_lv hold Hd (R 0) cells nw := ⟨_, rfl⟩
  obtain ⟨n2, hn2⟩ : ∃ n2, n2 = m_sh n1 := ⟨_, rfl⟩
  rw [← hX, ← hL] at ls
  rw [← hL] at lsh
  have n1lo : ∀ j, j ≠ 761 → n1 j = L.1 j := fun j hj => by rw [hn1]; unfold m_lv; rw [← hL, sk_up_ne _ _ hj]
  have n2lo : ∀ j, 0 ≤ j → j < 760 → n2 j = L.1 j := fun j j0 j1 => by rw [hn2, m_sh_lo (by omega), n1lo j (by omega)]
  have n1762 : n1 762 = ll := by rw [n1lo 762 (by omega), lsh.2 762 (by omega), e2]
  have n1hi : ∀ j, 762 ≤ j → n1 j = nw j := fun j hj => by rw [n1lo j (by omega), lsh.2 j (by omega)]
  have n2762 : n2 762 = if ll = 60 then 59 else ll := by rw [hn2, m_sh_762, n1762]
  obtain ⟨z, hz⟩ : ∃ z, z = n2 762 := ⟨_, rfl⟩
  have zb : 0 ≤ z ∧ z ≤ 59 ∧ (ll = 60 → z = 59) ∧ (ll ≠ 60 → z = ll) := by rw [hz, n2762]; split <;> omega
  have n2log : ∀ q, 0 ≤ q → q < 3 * z → n2 (763 + q) = if ll = 60 then nw (763 + q + 3) else nw (763 + q) := fun q q0 q1 => by
    rw [hn2]
    unfold m_sh
    rw [n1762]
    by_cases e : ll = 60
    · rw [if_pos e, if_pos e, sk_up_ne _ _ (by omega), sh_fd, if_pos (by omega), n1hi _ (by omega)]
    · rw [if_neg e, if_neg e, n1hi _ (by omega)]
  have q3lo : ∀ j, 0 ≤ j → j < 760 → m_q3 L.2 n2 j = L.1 j := fun j j0 j1 => by unfold m_q3; rw [sk_up_ne _ _ (by omega)]; exact n2lo j j0 j1
  have q4lo : ∀ j, 0 ≤ j → j < 760 → m_q4 cells hands L.2 n2 j = L.1 j := fun j j0 j1 => by unfold m_q4; rw [sk_up_ne _ _ (by omega)]; exact q3lo j j0 j1
  have p3 : pr cells hands X.1 X.2.1 (m_q3 L.2 n2) := pr_hi ls.1 q3lo
  have p4 : pr cells hands X.1 X.2.1 (m_q4 cells hands L.2 n2) := pr_hi ls.1 q4lo
  have es := pr_stra p3 c0 c1 h0 h4
  have eh : sk_sm (x_ct X.1 X.2.1 (R 2) 7) 0 (R 0 * R 1).toNat = sk_sm (fun l => if a_shown (mt (m_q4 cells hands L.2 n2) l) (ms (m_q4 cells hands L.2 n2) l) (R 2) (m_q4 cells hands L.2 n2 l) = 26 then 0 else 1) 0 cells.toNat := by
    rw [← hc]
    refine sk_sm_congr _ _ (fun j a b => ?_)
    try simp only []
    rw [pr_shown (p4.1 j a (by omega))]
    unfold x_ct
    rw [if_neg (by omega), if_pos rfl]
    rfl
  have epy : m_py hold Hd R' cells hands nw = m_q6 cells hands (R 2) L.2 n2 := by unfold m_py; rw [hR0, hR2, hn2, hn1, hL]
  have mn : sk_min 60 (ll + 1) = z + 1 := by unfold sk_min; split <;> omega
  have q6 : ∀ j, j ≠ 762 → m_q6 cells hands (R 2) L.2 n2 j = m_q5 cells hands (R 2) L.2 n2 j := fun j hj => by unfold m_q6; exact sk_up_ne _ _ hj
  have ey : ysum hold H R hands ye ly hs f lo = x_log f lo L.2 (sk_sm (a_str X.1 X.2.1) 0 4) (sk_sm (x_ct X.1 X.2.1 (R 2) 7) 0 (R 0 * R 1).toNat) := by unfold ysum; rw [← hX, ls.2]
  refine ⟨?_, ?_, at3.1.trans e0, by rw [at3.2.1, e1], ?_⟩
  · rw [← hX, epy]
    refine pr_hi ls.1 (fun j j0 j1 => ?_)
    rw [q6 j (by omega)]
    unfold m_q5
    rw [sk_up_ne _ _ (by omega)]
    exact q4lo j j0 j1
  · rw [ey, epy, mn]
    intro a b a0 a1 b0 b2
    rw [q6 _ (by omega)]
    by_cases ea : a = 0
    · subst ea
      have xn := x_log_new (f := f) (lo := lo) (g := L.2) (s := sk_sm (a_str X.1 X.2.1) 0 4) (t := sk_sm (x_ct X.1 X.2.1 (R 2) 7) 0 (R 0 * R 1).toNat)
      have ei : (763 : Int) + 3 * (z + 1 - 1 - 0) + b = 763 + 3 * z + b := by omega
      have ej : (lo + 1 - 1 - 0 : Int) = lo := by omega
      rw [ei, ej]
      have hb : b = 0 ∨ b = 1 ∨ b = 2 := by omega
      rcases hb with rfl | rfl | rfl
      · rw [xn.1]
        unfold m_q5 m_q4 m_q3
        rw [← hz, sk_up_ne _ _ (by omega), sk_up_ne _ _ (by omega), Int.add_zero, sk_up_self]
      · rw [xn.2.1, es]
        unfold m_q5
        rw [← hz, sk_up_ne _ _ (by omega)]
        unfold m_q4
        rw [← hz, sk_up_self]
      · rw [xn.2.2, eh]
        unfold m_q5
        rw [← hz, sk_up_self]
    · have e5 : m_q5 cells hands (R 2) L.2 n2 (763 + 3 * (z + 1 - 1 - a) + b) = n2 (763 + 3 * (z + 1 - 1 - a) + b) := by
        unfold m_q5 m_q4 m_q3
        rw [← hz, sk_up_ne _ _ (by omega), sk_up_ne _ _ (by omega), sk_up_ne _ _ (by omega)]
      rw [e5, show (763 + 3 * (z + 1 - 1 - a) + b : Int) = 763 + (3 * (z - a) + b) by omega, n2log (3 * (z - a) + b) (by omega) (by omega)]
      rw [show (lo + 1 - 1 - a : Int) = lo - a by omega, x_log_at b0 b2 (by omega)]
      have k := hl (a - 1) b (by omega) (by omega) b0 b2
      rw [show (lo - 1 - (a - 1) : Int) = lo - a by omega] at k
      rw [← k]
      by_cases e : ll = 60
      · rw [if_pos e, show (763 + (3 * (z - a) + b) + 3 : Int) = 763 + 3 * (ll - 1 - (a - 1)) + b by omega]
      · rw [if_neg e, show (763 + (3 * (z - a) + b) : Int) = 763 + 3 * (ll - 1 - (a - 1)) + b by omega]
  · rw [at3.2.2, e2, mn]
    split <;> omega
/-! writings -/
theorem code_n {x h s : Int} (h0 : 0 ≤ h) (h4 : h < 4) (s0 : 0 ≤ s) (s1 : s < 16) : (64 * x + 16 * h + s) / 64 = x ∧ (64 * x + 16 * h + s) / 16 % 4 = h ∧ (64 * x + 16 * h + s) % 16 = s := by omega
theorem pr_w3 {to x hd ink : Int} (h : pr cells hands ly hs nw) (t0 : 0 ≤ to) (t1 : to < cells) (c1 : cells ≤ 40) (h6 : hs to < 6) (x0 : 0 ≤ x) (x1 : x < 26) (d0 : 0 ≤ hd) (d1 : hd < hands) (h4 : hands ≤ 4) (i0 : 1 ≤ ink) (i1 : ink ≤ 9) : pr cells hands (sk_up ly (6 * to + hs to) (64 * x + 16 * hd + ink)) (sk_up hs to (hs to + 1)) (m_w3 to x hd ink nw) := by
  obtain ⟨p1, p2, p3, p4⟩ := h.1 to t0 (by omega)
  have cn := code_n (x := x) (h := hd) (s := ink) d0 (by omega) (by omega) (by omega)
  have eo : ∀ j, j ≠ to → (j < 40 + 3 * (6 * to + hs to) ∨ 40 + 3 * (6 * to + hs to) + 2 < j) → m_w3 to x hd ink nw j = nw j := fun j hj hj2 => by
    unfold m_w3
    rw [p1, sk_up_ne _ _ hj, sk_up_ne _ _ (by omega), sk_up_ne _ _ (by omega), sk_up_ne _ _ (by omega)]
  refine ⟨fun c a b => ?_, fun c a b => ?_⟩
  · by_cases e : c = to
    · subst e
      refine ⟨?_, by rw [sk_up_self]; omega, by rw [sk_up_self]; omega, fun i i0' i1' => ?_⟩
      · unfold m_w3; rw [sk_up_self, sk_up_self, p1]
      · rw [sk_up_self] at i1'
        by_cases ei : i = hs c
        · subst ei
          have f0 : sk_up ly (6 * c + hs c) (64 * x + 16 * hd + ink) (6 * c + hs c) = 64 * x + 16 * hd + ink := sk_up_self _ _ _
          have f1 : a_t6 (sk_up ly (6 * c + hs c) (64 * x + 16 * hd + ink)) c (hs c) = x := by unfold a_t6; rw [f0]; exact cn.1
          have f2 : a_h6 (sk_up ly (6 * c + hs c) (64 * x + 16 * hd + ink)) c (hs c) = hd := by unfold a_h6; rw [f0]; exact cn.2.1
          have f3 : a_s6 (sk_up ly (6 * c + hs c) (64 * x + 16 * hd + ink)) c (hs c) = ink := by unfold a_s6; rw [f0]; exact cn.2.2
          rw [f1, f2, f3]
          refine ⟨?_, ?_, ?_, ⟨x0, x1⟩, ⟨d0, d1⟩, i0, i1⟩
          · unfold mt m_w3; rw [p1, sk_up_ne _ _ (by omega), sk_up_ne _ _ (by omega), sk_up_ne _ _ (by omega), sk_up_self]
          · unfold mh m_w3; rw [p1, sk_up_ne _ _ (by omega), sk_up_ne _ _ (by omega), sk_up_self]
          · unfold ms m_w3; rw [p1, sk_up_ne _ _ (by omega), sk_up_self]
        · obtain ⟨q1, q2, q3, q4⟩ := p4 i i0' (by omega)
          have f0 : sk_up ly (6 * c + hs c) (64 * x + 16 * hd + ink) (6 * c + i) = ly (6 * c + i) := sk_up_ne _ _ (by omega)
          have f1 : a_t6 (sk_up ly (6 * c + hs c) (64 * x + 16 * hd + ink)) c i = a_t6 ly c i := by unfold a_t6; rw [f0]
          have f2 : a_h6 (sk_up ly (6 * c + hs c) (64 * x + 16 * hd + ink)) c i = a_h6 ly c i := by unfold a_h6; rw [f0]
          have f3 : a_s6 (sk_up ly (6 * c + hs c) (64 * x + 16 * hd + ink)) c i = a_s6 ly c i := by unfold a_s6; rw [f0]
          rw [f1, f2, f3]
          refine ⟨?_, ?_, ?_, q4⟩
          · rw [← q1]; unfold mt; exact eo _ (by omega) (by omega)
          · rw [← q2]; unfold mh; exact eo _ (by omega) (by omega)
          · rw [← q3]; unfold ms; exact eo _ (by omega) (by omega)
    · exact prc_mv (h.1 c a b) (sk_up_ne _ _ e) (eo c e (by omega)) (fun i _ _ => sk_up_ne _ _ (by omega)) (fun j j0 j1 => eo j (by omega) (by omega))
  · rw [sk_up_ne _ _ (by omega)]; exact h.2 c a b
end RLOG
