/-! ===== writing and the years' draws on both sides ===== -/
section RDRAW
variable {S : Nat → Int} {Y : Nat → Int → Int} {R H ly hs nw : Int → Int} {wn w spot hands : Int} {sg ln pl ss lg : Int → Int → Int} {size lines longest : Int → Int}
theorem room_iff : x_room (R 0) (sg w) (ln w) (pl w) (size w) spot hs = 1 ↔ ∀ k : Int, 0 ≤ k → k < (size w).toNat → sg w k ≠ 26 → hs (xw (R 0) (ln w) (pl w) spot k) < 6 := by
  unfold x_room
  rw [sk_ff_all]
  constructor
  · intro h k k0 k1 e
    have := of_decide_eq_false (h k k0 (by omega))
    have z : ¬ 6 ≤ hs (xw (R 0) (ln w) (pl w) spot k) := fun q => this ⟨e, q⟩
    omega
  · intro h k k0 k1
    apply decide_eq_false
    rintro ⟨e, q⟩
    have := h k k0 (by omega) e
    omega
theorem sk_ff_none {p : Int → Bool} : ∀ (n : Nat) (i : Int), sk_ff p (fun _ => (1 : Int)) 0 i n = 0 ↔ ∀ j, i ≤ j → j < i + n → p j = false
  | 0, i => by simp only [sk_ff]; exact ⟨fun _ j a b => by push_cast at b; omega, fun _ => trivial⟩
  | n + 1, i => by
    simp only [sk_ff]
    by_cases e : p i = true
    · rw [if_pos e]
      exact ⟨fun h => by omega, fun h => by have := h i (by omega) (by push_cast; omega); rw [e] at this; cases this⟩
    · rw [if_neg e, sk_ff_none n (i + 1)]
      constructor
      · intro h j a b
        by_cases z : j = i
        · subst z; simpa using e
        · exact h j (by omega) (by push_cast at b; omega)
      · intro h j a b
        exact h j (by omega) (by push_cast; omega)
theorem bw_at {k : Int} (h : bw S Y R wn sg ln pl ss lg size lines longest) (w0 : 0 ≤ w) (w1 : w < wn) (hd : rd_does (R 0) (R 1) (lines w) (longest w) spot = true) (k0 : 0 ≤ k) (k1 : k < size w) : mo_at Y w k (spot / 4) (spot % 4) = xw (R 0) (ln w) (pl w) spot k ∧ 0 ≤ xw (R 0) (ln w) (pl w) spot k ∧ xw (R 0) (ln w) (pl w) spot k < R 0 * R 1 := by
  obtain ⟨⟨h0, h1, h2⟩, hru, hc, hn, -, hw⟩ := h
  obtain ⟨hr, hg⟩ := hw w w0 w1
  have hW := rd_does_W hru hd
  obtain ⟨-, -, b1, b2, b3, b4⟩ := hg.1 k k0 k1
  have cc := rd_cell_in hW.1 hW.2.1 hd b1 b2 b3 b4
  refine ⟨at_eq hr hg h0 h1 hW.1 hW.2.1 hd k0 k1, ?_, ?_⟩
  · show 0 ≤ rd_cell (R 0) spot (ln w k) (pl w k)
    exact cc.1
  · show rd_cell (R 0) spot (ln w k) (pl w k) < R 0 * R 1
    omega
theorem bw_does (h : bw S Y R wn sg ln pl ss lg size lines longest) (w0 : 0 ≤ w) (w1 : w < wn) (c0 : 2 ≤ R 0) (s0 : 0 ≤ spot) (s1 : spot < 4 * (R 0 * R 1)) : mo_does Y w (spot / 4) (spot % 4) = 1 ↔ rd_does (R 0) (R 1) (lines w) (longest w) spot = true := by
  obtain ⟨⟨h0, h1, h2⟩, hru, hc, hn, -, hw⟩ := h
  exact mdoes_eq (hw w w0 w1).1 (hw w w0 w1).2 h0 h1 c0 (by rcases hru with z | z <;> omega) s0 s1
theorem full_eq (h : bw S Y R wn sg ln pl ss lg size lines longest) (w0 : 0 ≤ w) (w1 : w < wn) (hd : rd_does (R 0) (R 1) (lines w) (longest w) spot = true) (hp : pr (R 0 * R 1) hands ly hs nw) : mo_full (va_up Y 18 nw) w (spot / 4) (spot % 4) = 0 ↔ x_room (R 0) (sg w) (ln w) (pl w) (size w) spot hs = 1 := by
  rw [room_iff]
  have hr := (h.2.2.2.2.2 w w0 w1).1
  have sz := bw_size h w0 w1
  have cl := ru_cells h.2.1
  have e15 : va_up Y 18 nw 15 = Y 15 := va_up_ne _ _ (by omega)
  have e16 : va_up Y 18 nw 16 = Y 16 := va_up_ne _ _ (by omega)
  have e18 : va_up Y 18 nw 18 = nw := va_up_self _ _ _
  have ea : ∀ k, mo_at (va_up Y 18 nw) w k (spot / 4) (spot % 4) = mo_at Y w k (spot / 4) (spot % 4) := fun k => by
    unfold mo_at
    rw [e15, show va_up Y 18 nw 13 = Y 13 from va_up_ne _ _ (by omega)]
  unfold mo_full
  rw [sk_ff_none, e16, hr.1, e15, e18]
  constructor
  · intro q k k0 k1 e
    have := of_decide_eq_false (q k k0 (by omega))
    rw [ea, (bw_at h w0 w1 hd k0 (by omega)).1, (hr.2.1 k k0 (by omega)).1] at this
    obtain ⟨-, c0, c1⟩ := bw_at h w0 w1 hd k0 (by omega)
    obtain ⟨p1, p2, p3, -⟩ := hp.1 _ c0 (by omega)
    rw [p1] at this
    have z : ¬ hs (xw (R 0) (ln w) (pl w) spot k) = 6 := fun y => this ⟨e, y⟩
    omega
  · intro q k k0 k1
    apply decide_eq_false
    rw [ea, (bw_at h w0 w1 hd k0 (by omega)).1, (hr.2.1 k k0 (by omega)).1]
    obtain ⟨-, c0, c1⟩ := bw_at h w0 w1 hd k0 (by omega)
    obtain ⟨p1, p2, p3, -⟩ := hp.1 _ c0 (by omega)
    rw [p1]
    rintro ⟨e, y⟩
    have := q k k0 (by omega) e
    omega
theorem ld_eq {hd ink : Int} (h : bw S Y R wn sg ln pl ss lg size lines longest) (w0 : 0 ≤ w) (w1 : w < wn) (hdo : rd_does (R 0) (R 1) (lines w) (longest w) spot = true) (d0 : 0 ≤ hd) (d1 : hd < hands) (h4 : hands ≤ 4) (i0 : 1 ≤ ink) (i1 : ink ≤ 9) : ∀ (n : Nat) (i : Int) (s : (Int → Int) × (Int → Int)) (t : Int → Int), 0 ≤ i → i + n = size w → pr (R 0 * R 1) hands s.1 s.2 t → (∀ j, i ≤ j → j < size w → sg w j ≠ 26 → s.2 (xw (R 0) (ln w) (pl w) spot j) < 6) → pr (R 0 * R 1) hands (sk_fd (x_ld (R 0) (sg w) (ln w) (pl w) spot hd ink) i n s).1 (sk_fd (x_ld (R 0) (sg w) (ln w) (pl w) spot hd ink) i n s).2 (sk_fd (m_wr Y w hd (spot / 4) (spot % 4) ink) i n t) := by
  intro n
  induction n with
  | zero => intro i s t _ _ hp _; exact hp
  | succ n ih =>
    intro i s t i0 hi hp hf
    simp only [sk_fd]
    push_cast at hi
    have hr := (h.2.2.2.2.2 w w0 w1).1
    have hg := (h.2.2.2.2.2 w w0 w1).2
    have cl := ru_cells h.2.1
    have hW := rd_does_W h.2.1 hdo
    have e1 := (hr.2.1 i i0 (by omega)).1
    obtain ⟨a1, a2, a3⟩ := bw_at h w0 w1 hdo i0 (by omega : i < size w)
    by_cases e : sg w i = 26
    · have x1 : x_ld (R 0) (sg w) (ln w) (pl w) spot hd ink i s = s := if_pos (Or.inl e)
      have x2 : m_wr Y w hd (spot / 4) (spot % 4) ink i t = t := if_pos (by rw [e1]; exact e)
      rw [x1, x2]
      exact ih (i + 1) s t (by omega) (by omega) hp (fun j p q => hf j (by omega) q)
    · have g := hf i (by omega) (by omega) e
      have x1 : x_ld (R 0) (sg w) (ln w) (pl w) spot hd ink i s = (sk_up s.1 (6 * xw (R 0) (ln w) (pl w) spot i + s.2 (xw (R 0) (ln w) (pl w) spot i)) (64 * sg w i + 16 * hd + ink), sk_up s.2 (xw (R 0) (ln w) (pl w) spot i) (s.2 (xw (R 0) (ln w) (pl w) spot i) + 1)) := if_neg (by omega)
      have x2 : m_wr Y w hd (spot / 4) (spot % 4) ink i t = m_w3 (xw (R 0) (ln w) (pl w) spot i) (sg w i) hd ink t := by
        unfold m_wr
        rw [e1, if_neg e, a1]
      rw [x1, x2]
      obtain ⟨g0, g1, -⟩ := hg.1 i i0 (by omega)
      refine ih (i + 1) _ _ (by omega) (by omega) (pr_w3 hp a2 a3 (by omega) g g0 (by omega) d0 d1 h4 (by omega) i1) (fun j p q z => ?_)
      (try simp only [])
      rw [sk_up_ne _ _ (fun y => by
        have := xw_inj hW.1 hg.1 hg.2.1 hdo (by omega : 0 ≤ j) q i0 (by omega) y
        omega)]
      exact hf j (by omega) q z
theorem wd_eq {sc : Int} {s : x_W} {t : m_W} (h : bw S Y R wn sg ln pl ss lg size lines longest) (hsc : S 31 = sc) (hh : S 22 = hands) (h0 : 0 < hands) (h4 : hands ≤ 4) (hW : 2 ≤ R 0) (hH : ∀ j, 0 ≤ j → j < hands → Y 14 (2 * j) = H (2 * j) ∧ 1 ≤ H (2 * j) ∧ H (2 * j) ≤ 9) (e1 : s.1 = t.1) (hp : pr (R 0 * R 1) hands s.2.1 s.2.2 t.2) : (x_wd sc wn hands R H sg ln pl size lines longest s).1 = (m_wd S Y t).1 ∧ pr (R 0 * R 1) hands (x_wd sc wn hands R H sg ln pl size lines longest s).2.1 (x_wd sc wn hands R H sg ln pl size lines longest s).2.2 (m_wd S Y t).2 := by
  have cl := ru_cells h.2.1
  have wb := h.2.2.2.2.1
  unfold x_wd m_wd
  rw [hsc, hh, h.2.2.1, h.2.2.2.1, e1]
  generalize ex0 : nx t.1 = x0
  generalize ex1 : nx x0 = x1
  generalize ex2 : nx x1 = x2
  generalize ex3 : nx x2 = x3
  generalize ex4 : nx x3 = x4
  by_cases q : sc ≤ dw x0 10 ∨ wn = 0
  · rw [if_pos q, if_neg (by omega : ¬ (dw x0 10 < sc ∧ 0 < wn))]
    exact ⟨rfl, hp⟩
  · rw [if_neg q, if_pos (by omega : dw x0 10 < sc ∧ 0 < wn)]
    have dw1 := dw_in x1 (j := wn) (by omega) (by omega)
    have dw2 := dw_in x2 (j := hands) (by omega) (by omega)
    have dw3 := dw_in x3 (j := R 0 * R 1) (by omega) (by omega)
    have dw4 := dw_in x4 (j := 4) (by omega) (by omega)
    generalize dw x1 wn = w at *
    generalize dw x2 hands = hd at *
    generalize dw x3 (R 0 * R 1) = l at *
    generalize dw x4 4 = way at *
    have es : ∃ spot, spot = 4 * l + way ∧ spot / 4 = l ∧ spot % 4 = way := ⟨4 * l + way, rfl, by omega, by omega⟩
    obtain ⟨spot, es1, es2, es3⟩ := es
    rw [← es1, ← es2, ← es3]
    have k1 := bw_does (spot := spot) h dw1.1 dw1.2 hW (by omega) (by omega)
    by_cases z : rd_does (R 0) (R 1) (lines w) (longest w) spot = true
    · have k2 := full_eq h dw1.1 dw1.2 z hp
      by_cases y : x_room (R 0) (sg w) (ln w) (pl w) (size w) spot s.2.2 = 1
      · rw [if_pos ⟨z, y⟩, if_pos ⟨k1.mpr z, k2.mpr y⟩]
        obtain ⟨i1, i2, i3⟩ := hH hd dw2.1 dw2.2
        have sz := bw_size h dw1.1 dw1.2
        have hr := (h.2.2.2.2.2 w dw1.1 dw1.2).1
        rw [i1, hr.1]
        refine ⟨rfl, ld_eq h dw1.1 dw1.2 z dw2.1 dw2.2 h4 i2 i3 _ 0 s.2 t.2 (by omega) (by omega) hp (fun j j0 j1 e => room_iff.mp y j j0 (by omega) e)⟩
      · rw [if_neg (fun u => y u.2), if_neg (fun u => y (k2.mp u.2))]
        exact ⟨rfl, hp⟩
    · rw [if_neg (fun u => z u.1), if_neg (fun u => z (k1.mp u.1))]
      exact ⟨rfl, hp⟩
theorem sd_eq {s : x_W} {t : m_W} (h : bw S Y R wn sg ln pl ss lg size lines longest) (hW : 2 ≤ R 0) (e1 : s.1 = t.1) (hp : pr (R 0 * R 1) hands s.2.1 s.2.2 t.2) : (x_sd R s).1 = (m_sd Y t).1 ∧ pr (R 0 * R 1) hands (x_sd R s).2.1 (x_sd R s).2.2 (m_sd Y t).2 := by
  have cl := ru_cells h.2.1
  obtain ⟨⟨h0, h1, -⟩, hru, -⟩ := id h
  have hR : 1 ≤ R 1 ∧ R 1 ≤ 5 := by rcases hru with z | z <;> omega
  unfold x_sd m_sd
  rw [e1, h0, h1]
  by_cases q : 3 ≤ dw (nx t.1) 10
  · rw [if_pos q, if_pos q]; exact ⟨rfl, hp⟩
  · rw [if_neg q, if_neg q]
    have d2 := dw_in (nx (nx t.1)) (j := R 1) (by omega) (by omega)
    generalize dw (nx (nx t.1)) (R 1) = row at *
    have m0 : 0 ≤ row * R 0 := Int.mul_nonneg d2.1 (by omega)
    have m1 : row * R 0 + R 0 ≤ R 0 * R 1 := by
      have : (row + 1) * R 0 ≤ R 1 * R 0 := Int.mul_le_mul_of_nonneg_right (by omega) (by omega)
      rw [Int.add_mul, Int.one_mul, Int.mul_comm (R 1)] at this
      exact this
    exact ⟨rfl, (pr_row hp (by omega) m0 (by omega)).1⟩
end RDRAW
