/-! ===== the page and the row: rows scraped, cells faded, writings ===== -/
section RFADE
variable {cells hands : Int} {ly hs nw : Int → Int} {c n : Int}
theorem x_sc_eta (n c : Int) (s : (Int → Int) × (Int → Int) × Int) : x_sc n c s = x_sc n c (s.1, s.2.1, s.2.2) := rfl
theorem pr_scr (n0 : 0 ≤ n) (a : Int) : ∀ (k : Nat) (i : Int) (s : (Int → Int) × (Int → Int) × Int) (t : (Int → Int) × Int), 0 ≤ a + i → a + i + k ≤ 40 → pr cells hands s.1 s.2.1 t.1 → pr cells hands (sk_fd (fun j => x_sc n (a + j)) i k s).1 (sk_fd (fun j => x_sc n (a + j)) i k s).2.1 (sk_fd (fun j => m_sc n (a + j)) i k t).1 ∧ (sk_fd (fun j => x_sc n (a + j)) i k s).2.2 - s.2.2 = (sk_fd (fun j => m_sc n (a + j)) i k t).2 - t.2 := by
  intro k
  induction k with
  | zero => intro i s t _ _ h; exact ⟨h, by simp [sk_fd]⟩
  | succ k ih =>
    intro i s t a0 a1 h
    have st := pr_sc (n := n) h a0 (by omega) n0 s.2.2 t.2
    have r := ih (i + 1) (x_sc n (a + i) s) (m_sc n (a + i) t) (by omega) (by omega) st.1
    refine ⟨r.1, ?_⟩
    have r2 := r.2
    have st2 := st.2
    simp only [sk_fd]
    have e1 : (x_sc n (a + i) (s.1, s.2.1, s.2.2)).2.2 = (x_sc n (a + i) s).2.2 := rfl
    have e2 : (m_sc n (a + i) (t.1, t.2)).2 = (m_sc n (a + i) t).2 := rfl
    rw [e1, e2] at st2
    omega
theorem pr_row {W row : Int} (h : pr cells hands ly hs nw) (n0 : 0 ≤ n) (r0 : 0 ≤ row * W) (r1 : row * W + W ≤ 40) : pr cells hands (sk_fd (x_sc n) (row * W) W.toNat (ly, hs, 0)).1 (sk_fd (x_sc n) (row * W) W.toNat (ly, hs, 0)).2.1 (sk_fd (fun i => m_sc n (W * row + i)) 0 W.toNat (nw, 0)).1 ∧ (sk_fd (x_sc n) (row * W) W.toNat (ly, hs, 0)).2.2 = (sk_fd (fun i => m_sc n (W * row + i)) 0 W.toNat (nw, 0)).2 := by
  have e := sk_fd_sh (x_sc n) (row * W) W.toNat 0 (ly, hs, (0 : Int))
  rw [Int.add_zero] at e
  rw [e, Int.mul_comm W row]
  by_cases w0 : 0 ≤ W
  · have k := pr_scr (cells := cells) (hands := hands) n0 (row * W) W.toNat 0 (ly, hs, 0) (nw, 0) (by omega) (by omega) h
    refine ⟨k.1, ?_⟩
    have := k.2
    try simp only [] at this
    omega
  · rw [show W.toNat = 0 by omega]
    exact ⟨h, rfl⟩
/-! fading -/
theorem m_fad_c {hold : Option (List lq_C)} {Hd : Int → Int} {W c i : Int} {nw nw' : Int → Int} (e0 : nw' c = nw c) (e1 : nw' (40 + 3 * (6 * c + i) + 1) = nw (40 + 3 * (6 * c + i) + 1)) (e2 : nw' (40 + 3 * (6 * c + i) + 2) = nw (40 + 3 * (6 * c + i) + 2)) (e3 : nw' 761 = nw 761) : m_fad hold Hd W nw' c i = m_fad hold Hd W nw c i := by
  unfold m_fad
  rw [e0, e1, e2, e3]
theorem m_fd_at {hold : Option (List lq_C)} {Hd : Int → Int} {W c : Int} {nw : Int → Int} (c0 : 0 ≤ c) (c1 : c < 40) : ∀ (k : Nat) (i : Int) (w : Int → Int), 0 ≤ i → i + k ≤ 6 → (∀ j, (∀ q, 0 ≤ q → q < i → j ≠ 40 + 3 * (6 * c + q) + 2) → w j = nw j) → (∀ q, 0 ≤ q → q < i → w (40 + 3 * (6 * c + q) + 2) = sk_max 0 (nw (40 + 3 * (6 * c + q) + 2) - m_fad hold Hd W nw c q)) → (∀ j, (∀ q, 0 ≤ q → q < i + k → j ≠ 40 + 3 * (6 * c + q) + 2) → sk_fd (m_fs hold Hd W c) i k w j = nw j) ∧ (∀ q, 0 ≤ q → q < i + k → sk_fd (m_fs hold Hd W c) i k w (40 + 3 * (6 * c + q) + 2) = sk_max 0 (nw (40 + 3 * (6 * c + q) + 2) - m_fad hold Hd W nw c q)) := by
  intro k
  induction k with
  | zero =>
    intro i w i0 i6 h1 h2
    simp only [sk_fd]
    exact ⟨fun j hj => h1 j (fun q a b => hj q a (by push_cast; omega)), fun q a b => h2 q a (by push_cast at b; omega)⟩
  | succ k ih =>
    intro i w i0 i6 h1 h2
    simp only [sk_fd]
    have ew : ∀ j, (∀ q, 0 ≤ q → q < i → j ≠ 40 + 3 * (6 * c + q) + 2) → w j = nw j := h1
    have fe : m_fad hold Hd W w c i = m_fad hold Hd W nw c i := m_fad_c (ew c (fun q _ _ => by omega)) (ew _ (fun q _ _ => by omega)) (ew _ (fun q _ _ => by omega)) (ew 761 (fun q _ _ => by omega))
    have r := ih (i + 1) (m_fs hold Hd W c i w) (by omega) (by push_cast at i6; omega) (fun j hj => by
      unfold m_fs
      rw [sk_up_ne _ _ (hj i i0 (by omega))]
      exact h1 j (fun q a b => hj q a (by omega))) (fun q a b => by
      unfold m_fs
      by_cases e : q = i
      · subst e
        rw [sk_up_self, fe, ew _ (fun q _ _ => by omega)]
      · rw [sk_up_ne _ _ (by omega)]
        exact h2 q a (by omega))
    refine ⟨fun j hj => r.1 j (fun q a b => hj q a (by push_cast; omega)), fun q a b => r.2 q a (by push_cast at b; omega)⟩
/-- cleaning and fading, side by side -/
theorem fc_step {hold : Option (List lq_C)} {H : Int → Int} {row yr h c : Int} {ly nw1 : Int → Int} (c0 : 0 ≤ c) (c1 : c < 40) (h6 : h ≤ 6) (hh : ∀ k, 0 ≤ k → k < h → mt nw1 c k = a_t6 ly c k ∧ mh nw1 c k = a_h6 ly c k ∧ ms nw1 c k = sk_max 0 (a_s6 ly c k - x_fad hold H hands (ly (6 * c + k)) (h - 1 - k) row yr) ∧ (0 ≤ a_t6 ly c k ∧ a_t6 ly c k < 26) ∧ (0 ≤ a_h6 ly c k ∧ a_h6 ly c k < hands) ∧ 1 ≤ a_s6 ly c k ∧ a_s6 ly c k ≤ 9 ∧ 0 ≤ x_fad hold H hands (ly (6 * c + k)) (h - 1 - k) row yr) : ∀ (n : Nat) (i t : Int) (lyi nwi : Int → Int), i + n = h → 0 ≤ t → t ≤ i → (∀ k, i ≤ k → k < 6 → lyi (6 * c + k) = ly (6 * c + k)) → (∀ k, i ≤ k → k < h → mt nwi c k = mt nw1 c k ∧ mh nwi c k = mh nw1 c k ∧ ms nwi c k = ms nw1 c k) → (∀ k, 0 ≤ k → k < t → mt nwi c k = a_t6 lyi c k ∧ mh nwi c k = a_h6 lyi c k ∧ ms nwi c k = a_s6 lyi c k ∧ (0 ≤ a_t6 lyi c k ∧ a_t6 lyi c k < 26) ∧ (0 ≤ a_h6 lyi c k ∧ a_h6 lyi c k < hands) ∧ 1 ≤ a_s6 lyi c k ∧ a_s6 lyi c k ≤ 9) → (sk_fd (x_fs hold H hands row yr h c) i n (t, lyi)).1 = (sk_fd (m_cl c) i n (t, nwi)).1 ∧ ∀ k, 0 ≤ k → k < (sk_fd (x_fs hold H hands row yr h c) i n (t, lyi)).1 → mt (sk_fd (m_cl c) i n (t, nwi)).2 c k = a_t6 (sk_fd (x_fs hold H hands row yr h c) i n (t, lyi)).2 c k ∧ mh (sk_fd (m_cl c) i n (t, nwi)).2 c k = a_h6 (sk_fd (x_fs hold H hands row yr h c) i n (t, lyi)).2 c k ∧ ms (sk_fd (m_cl c) i n (t, nwi)).2 c k = a_s6 (sk_fd (x_fs hold H hands row yr h c) i n (t, lyi)).2 c k ∧ (0 ≤ a_t6 (sk_fd (x_fs hold H hands row yr h c) i n (t, lyi)).2 c k ∧ a_t6 (sk_fd (x_fs hold H hands row yr h c) i n (t, lyi)).2 c k < 26) ∧ (0 ≤ a_h6 (sk_fd (x_fs hold H hands row yr h c) i n (t, lyi)).2 c k ∧ a_h6 (sk_fd (x_fs hold H hands row yr h c) i n (t, lyi)).2 c k < hands) ∧ 1 ≤ a_s6 (sk_fd (x_fs hold H hands row yr h c) i n (t, lyi)).2 c k ∧ a_s6 (sk_fd (x_fs hold H hands row yr h c) i n (t, lyi)).2 c k ≤ 9 := by
  intro n
  induction n with
  | zero => intro i t lyi nwi hi t0 ti ha hb hc; exact ⟨rfl, hc⟩
  | succ n ih =>
    intro i t lyi nwi hi t0 ti ha hb hc
    simp only [sk_fd]
    obtain ⟨q1, q2, q3, q4, q5, q6, q7, q8⟩ := hh i (by omega) (by omega)
    obtain ⟨b1, b2, b3⟩ := hb i (by omega) (by omega)
    have el : lyi (6 * c + i) = ly (6 * c + i) := ha i (by omega) (by omega)
    obtain ⟨F, hF⟩ : ∃ F, F = x_fad hold H hands (ly (6 * c + i)) (h - 1 - i) row yr := ⟨_, rfl⟩
    rw [← hF] at q3 q8
    have es : a_s6 ly c i = ly (6 * c + i) % 16 := rfl
    have em : nwi (40 + 3 * (6 * c + i) + 2) = sk_max 0 (a_s6 ly c i - F) := b3.trans q3
    by_cases z : 0 < a_s6 ly c i - F
    · have mx : sk_max 0 (a_s6 ly c i - F) = a_s6 ly c i - F := by unfold sk_max; split <;> omega
      have e1 : x_fs hold H hands row yr h c i (t, lyi) = (t + 1, sk_up lyi (6 * c + t) (ly (6 * c + i) - ly (6 * c + i) % 16 + (a_s6 ly c i - F))) := by
        unfold x_fs
        try simp only []
        rw [el, ← hF, if_pos (by rw [← es]; exact z), ← es]
      have e2 : m_cl c i (t, nwi) = (t + 1, mc3 (6 * c + i) (6 * c + t) nwi) := by
        unfold m_cl
        try simp only []
        rw [em, mx, if_pos z]
      rw [e1, e2]
      have cw := code_w (q := ly (6 * c + i)) (v := a_s6 ly c i - F) (by omega) (by omega)
      have m3 := mc3_at (a := 6 * c + i) (b := 6 * c + t) (nw := nwi)
      refine ih (i + 1) (t + 1) _ _ (by push_cast at hi; omega) (by omega) (by omega) (fun k a b => by rw [sk_up_ne _ _ (by omega)]; exact ha k (by omega) b) (fun k a b => ?_) (fun k a b => ?_)
      · obtain ⟨u1, u2, u3⟩ := hb k (by omega) b
        refine ⟨?_, ?_, ?_⟩
        · rw [← u1]; unfold mt; exact mc3_out (by omega)
        · rw [← u2]; unfold mh; exact mc3_out (by omega)
        · rw [← u3]; unfold ms; exact mc3_out (by omega)
      · by_cases e : k = t
        · subst e
          have f0 : sk_up lyi (6 * c + k) (ly (6 * c + i) - ly (6 * c + i) % 16 + (a_s6 ly c i - F)) (6 * c + k) = ly (6 * c + i) - ly (6 * c + i) % 16 + (a_s6 ly c i - F) := sk_up_self _ _ _
          have f1 : a_t6 (sk_up lyi (6 * c + k) (ly (6 * c + i) - ly (6 * c + i) % 16 + (a_s6 ly c i - F))) c k = a_t6 ly c i := by unfold a_t6; rw [f0]; exact cw.1
          have f2 : a_h6 (sk_up lyi (6 * c + k) (ly (6 * c + i) - ly (6 * c + i) % 16 + (a_s6 ly c i - F))) c k = a_h6 ly c i := by unfold a_h6; rw [f0]; exact cw.2.1
          have f3 : a_s6 (sk_up lyi (6 * c + k) (ly (6 * c + i) - ly (6 * c + i) % 16 + (a_s6 ly c i - F))) c k = a_s6 ly c i - F := by
            have : (sk_up lyi (6 * c + k) (ly (6 * c + i) - ly (6 * c + i) % 16 + (a_s6 ly c i - F))) (6 * c + k) % 16 = a_s6 ly c i - F := by rw [f0]; exact cw.2.2
            exact this
          rw [f1, f2, f3]
          refine ⟨?_, ?_, ?_, q4, q5, by omega, by omega⟩
          · rw [← q1, ← b1]; exact m3.1
          · rw [← q2, ← b2]; exact m3.2.1
          · rw [← mx, ← em]; exact m3.2.2
        · obtain ⟨u1, u2, u3, u4⟩ := hc k a (by omega)
          have f0 : sk_up lyi (6 * c + t) (ly (6 * c + i) - ly (6 * c + i) % 16 + (a_s6 ly c i - F)) (6 * c + k) = lyi (6 * c + k) := sk_up_ne _ _ (by omega)
          have f1 : a_t6 (sk_up lyi (6 * c + t) (ly (6 * c + i) - ly (6 * c + i) % 16 + (a_s6 ly c i - F))) c k = a_t6 lyi c k := by unfold a_t6; rw [f0]
          have f2 : a_h6 (sk_up lyi (6 * c + t) (ly (6 * c + i) - ly (6 * c + i) % 16 + (a_s6 ly c i - F))) c k = a_h6 lyi c k := by unfold a_h6; rw [f0]
          have f3 : a_s6 (sk_up lyi (6 * c + t) (ly (6 * c + i) - ly (6 * c + i) % 16 + (a_s6 ly c i - F))) c k = a_s6 lyi c k := by
            show (sk_up lyi (6 * c + t) (ly (6 * c + i) - ly (6 * c + i) % 16 + (a_s6 ly c i - F))) (6 * c + k) % 16 = lyi (6 * c + k) % 16
            rw [f0]
          rw [f1, f2, f3]
          refine ⟨?_, ?_, ?_, u4⟩
          · rw [← u1]; unfold mt; exact mc3_out (by omega)
          · rw [← u2]; unfold mh; exact mc3_out (by omega)
          · rw [← u3]; unfold ms; exact mc3_out (by omega)
    · have mx : sk_max 0 (a_s6 ly c i - F) = 0 := by unfold sk_max; split <;> omega
      have e1 : x_fs hold H hands row yr h c i (t, lyi) = (t, lyi) := by
        unfold x_fs
        try simp only []
        rw [el, ← hF, if_neg (by rw [← es]; exact z)]
      have e2 : m_cl c i (t, nwi) = (t, nwi) := by
        unfold m_cl
        try simp only []
        rw [em, mx, if_neg (by omega)]
      rw [e1, e2]
      exact ih (i + 1) t lyi nwi (by push_cast at hi; omega) t0 (by omega) (fun k a b => ha k (by omega) b) (fun k a b => hb k (by omega) b) hc
end RFADE
