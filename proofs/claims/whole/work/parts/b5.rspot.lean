/-! ===== writings and places on both sides ===== -/
theorem sk_ff_all {p : Int → Bool} : ∀ (n : Nat) (i : Int), sk_ff p (fun _ => (0 : Int)) 1 i n = 1 ↔ ∀ j, i ≤ j → j < i + n → p j = false
  | 0, i => by simp only [sk_ff]; exact ⟨fun _ j a b => by push_cast at b; omega, fun _ => trivial⟩
  | n + 1, i => by
    simp only [sk_ff]
    by_cases e : p i = true
    · rw [if_pos e]
      exact ⟨fun h => by omega, fun h => by have := h i (by omega) (by push_cast; omega); rw [e] at this; cases this⟩
    · rw [if_neg e, sk_ff_all n (i + 1)]
      constructor
      · intro h j a b
        by_cases z : j = i
        · subst z; simpa using e
        · exact h j (by omega) (by push_cast at b; omega)
      · intro h j a b
        exact h j (by omega) (by push_cast; omega)
/-- all that a writing keeps to -/
def wg (sg ln pl ss lg : Int → Int) (size lines longest : Int) : Prop := wp sg ln pl size lines longest ∧ wl ln pl ss lg size lines ∧ (∃ l, 0 ≤ l ∧ l < lines ∧ lg l = longest) ∧ (1 ≤ lines ∧ lines ≤ 4) ∧ (1 ≤ longest ∧ longest ≤ 8) ∧ 1 ≤ size ∧ size ≤ 16
def wrel (Y : Nat → Int → Int) (w : Int) (sg ln pl lg : Int → Int) (size lines : Int) : Prop := Y 16 w = size ∧ (∀ k, 0 ≤ k → k < size → Y 15 (3 * (16 * w + k)) = sg k ∧ Y 15 (3 * (16 * w + k) + 1) = ln k ∧ Y 15 (3 * (16 * w + k) + 2) = pl k) ∧ ∀ l, 0 ≤ l → l < 4 → Y 17 (4 * w + l) = if l < lines then lg l else 0
theorem mo_cell_ge {W Hh a b l way : Int} (hW : 0 ≤ W) (h : mo_cell W Hh a b l way ≠ -1) : (0 ≤ mo_x W a b l way ∧ mo_x W a b l way < W) ∧ 0 ≤ mo_y W a b l way ∧ mo_y W a b l way < Hh := by
  unfold mo_cell at h
  split at h
  · next e => exact ⟨⟨e.1, e.2.1⟩, e.2.2.1, e.2.2.2⟩
  · exact absurd rfl h
section RSPOT
variable {sg ln pl ss lg : Int → Int} {size lines longest W Hh spot : Int}
theorem does_eq (hg : wg sg ln pl ss lg size lines longest) (hW : 2 ≤ W) (hW8 : W ≤ 8) (s0 : 0 ≤ spot) (s1 : spot < 4 * (W * Hh)) : (∀ k, 0 ≤ k → k < size → mo_cell W Hh (ln k) (pl k) (spot / 4) (spot % 4) ≠ -1) ↔ rd_does W Hh lines longest spot = true := by
  obtain ⟨hp, hl, ⟨l9, l90, l91, l92⟩, ⟨n1, n4⟩, ⟨o1, o8⟩, z1, z16⟩ := hg
  constructor
  · intro h
    obtain ⟨a1, a2, a3, a4⟩ := hl
    obtain ⟨b0, b1, b2, b3⟩ := a2 (lines - 1) (by omega) (by omega)
    obtain ⟨c0, c1, c2, c3⟩ := a2 l9 l90 l91
    have k1 := a4 (lines - 1) 0 (by omega) (by omega) (by omega) (by omega)
    have k2 := a4 l9 (longest - 1) l90 l91 (by omega) (by omega)
    have g1 := mo_cell_ge (by omega) (h (ss (lines - 1) + 0) (by omega) (by omega))
    have g2 := mo_cell_ge (by omega) (h (ss l9 + (longest - 1)) (by omega) (by omega))
    rw [k1.1, k1.2] at g1
    rw [k2.1, k2.2] at g2
    unfold mo_x mo_y at g1 g2
    unfold rd_does
    apply decide_eq_true
    unfold rd_row rd_pl
    have hw : spot % 4 = 0 ∨ spot % 4 = 1 ∨ spot % 4 = 2 ∨ spot % 4 = 3 := by omega
    rcases hw with e | e | e | e
    · rw [e] at g1 g2 ⊢
      simp only [show wy2 0 = 1 from rfl, show wy3 0 = 0 from rfl, show wy4 0 = 0 from rfl, show wy5 0 = 1 from rfl, Int.mul_one, Int.mul_zero, Int.add_zero, if_true] at g1 g2 ⊢
      exact ⟨s0, s1, by omega, by omega, by omega, by omega⟩
    · rw [e] at g1 g2 ⊢
      simp only [show wy2 1 = 0 from rfl, show wy3 1 = -1 from rfl, show wy4 1 = 1 from rfl, show wy5 1 = 0 from rfl, show ¬ ((1 : Int) = 0) by omega, Int.mul_one, Int.mul_zero, Int.add_zero, Int.mul_neg, if_true, if_false] at g1 g2 ⊢
      exact ⟨s0, s1, by omega, by omega, by omega, by omega⟩
    · rw [e] at g1 g2 ⊢
      simp only [show wy2 2 = -1 from rfl, show wy3 2 = 0 from rfl, show wy4 2 = 0 from rfl, show wy5 2 = -1 from rfl, show ¬ ((2 : Int) = 0) by omega, show ¬ ((2 : Int) = 1) by omega, Int.mul_one, Int.mul_zero, Int.add_zero, Int.mul_neg, if_true, if_false] at g1 g2 ⊢
      exact ⟨s0, s1, by omega, by omega, by omega, by omega⟩
    · rw [e] at g1 g2 ⊢
      simp only [show wy2 3 = 0 from rfl, show wy3 3 = 1 from rfl, show wy4 3 = -1 from rfl, show wy5 3 = 0 from rfl, show ¬ ((3 : Int) = 0) by omega, show ¬ ((3 : Int) = 1) by omega, show ¬ ((3 : Int) = 2) by omega, Int.mul_one, Int.mul_zero, Int.add_zero, Int.mul_neg, if_true, if_false] at g1 g2 ⊢
      exact ⟨s0, s1, by omega, by omega, by omega, by omega⟩
  · intro h k k0 k1
    obtain ⟨-, -, h1, h2, h3, h4⟩ := hp k k0 k1
    have := rd_cell_in hW hW8 h h1 h2 h3 h4
    rw [this.2.2.1]
    omega
theorem rd_cell_of {W Hh spot c : Int} (hW : 2 ≤ W) : rd_cell W spot (x_ln W spot c) (x_pl W spot c) = c := by
  unfold rd_cell x_ln x_pl
  have e1 := Int.emod_add_mul_ediv c W
  have e2 := Int.emod_add_mul_ediv (spot / 4) W
  generalize spot / 4 = p at *
  have hw : spot % 4 = 0 ∨ spot % 4 = 1 ∨ spot % 4 = 2 ∨ spot % 4 = 3 := by omega
  have key : p + (c / W - p / W) * W + (c % W - p % W) = c := by rw [Int.sub_mul, Int.mul_comm (c / W), Int.mul_comm (p / W)]; omega
  rcases hw with e | e | e | e
  · rw [e]
    simp only [show wy2 0 = 1 from rfl, show wy3 0 = 0 from rfl, show wy4 0 = 0 from rfl, show wy5 0 = 1 from rfl, Int.mul_one, Int.mul_zero, Int.add_zero, Int.zero_add]
    exact key
  · rw [e]
    simp only [show wy2 1 = 0 from rfl, show wy3 1 = -1 from rfl, show wy4 1 = 1 from rfl, show wy5 1 = 0 from rfl, Int.mul_one, Int.mul_zero, Int.add_zero, Int.zero_add, Int.mul_neg, Int.neg_neg]
    exact key
  · rw [e]
    simp only [show wy2 2 = -1 from rfl, show wy3 2 = 0 from rfl, show wy4 2 = 0 from rfl, show wy5 2 = -1 from rfl, Int.mul_one, Int.mul_zero, Int.add_zero, Int.zero_add, Int.mul_neg, Int.neg_neg]
    exact key
  · rw [e]
    simp only [show wy2 3 = 0 from rfl, show wy3 3 = 1 from rfl, show wy4 3 = -1 from rfl, show wy5 3 = 0 from rfl, Int.mul_one, Int.mul_zero, Int.add_zero, Int.zero_add, Int.mul_neg, Int.neg_neg]
    exact key
variable {S : Nat → Int} {Y : Nat → Int → Int} {R ly hs : Int → Int} {w wn hands : Int}
theorem at_eq {k : Int} (hr : wrel Y w sg ln pl lg size lines) (hg : wg sg ln pl ss lg size lines longest) (h0 : Y 13 0 = W) (h1 : Y 13 1 = Hh) (hW : 2 ≤ W) (hW8 : W ≤ 8) (hd : rd_does W Hh lines longest spot = true) (k0 : 0 ≤ k) (k1 : k < size) : mo_at Y w k (spot / 4) (spot % 4) = xw W ln pl spot k := by
  obtain ⟨-, e2, e3⟩ := hr.2.1 k k0 k1
  obtain ⟨-, -, b1, b2, b3, b4⟩ := hg.1 k k0 k1
  unfold mo_at
  rw [h0, h1, e2, e3]
  exact (rd_cell_in hW hW8 hd b1 b2 b3 b4).2.2.1
theorem mdoes_eq (hr : wrel Y w sg ln pl lg size lines) (hg : wg sg ln pl ss lg size lines longest) (h0 : Y 13 0 = W) (h1 : Y 13 1 = Hh) (hW : 2 ≤ W) (hW8 : W ≤ 8) (s0 : 0 ≤ spot) (s1 : spot < 4 * (W * Hh)) : mo_does Y w (spot / 4) (spot % 4) = 1 ↔ rd_does W Hh lines longest spot = true := by
  rw [← does_eq hg hW hW8 s0 s1]
  unfold mo_does
  rw [sk_ff_all, hr.1]
  constructor
  · intro h k k0 k1
    have := of_decide_eq_false (h k k0 (by omega))
    obtain ⟨-, e2, e3⟩ := hr.2.1 k k0 k1
    unfold mo_at at this
    rw [h0, h1, e2, e3] at this
    exact this
  · intro h k k0 k1
    apply decide_eq_false
    have := h k k0 (by omega)
    obtain ⟨-, e2, e3⟩ := hr.2.1 k k0 (by omega)
    unfold mo_at
    rw [h0, h1, e2, e3]
    exact this
/-- a place on both sides -/
theorem spot_eq (hr : 0 ≤ w → w < wn → wrel Y w sg ln pl lg size lines) (hg : 0 ≤ w → w < wn → wg sg ln pl ss lg size lines longest) (h0 : Y 13 0 = R 0) (h1 : Y 13 1 = R 1) (hru : ru_ok (R 0) (R 1)) (hc : S 23 = R 0 * R 1) (hn : S 27 = wn) : mo_spot S Y w spot = 1 ↔ (0 ≤ w ∧ w < wn ∧ rd_does (R 0) (R 1) lines longest spot = true) := by
  have cl := ru_cells hru
  unfold mo_spot
  rw [hc, hn]
  by_cases e : 0 < R 0 * R 1 ∧ 0 ≤ w ∧ w < wn ∧ 0 ≤ spot ∧ spot < 4 * (R 0 * R 1)
  · rw [if_pos e]
    have hW : 2 ≤ R 0 ∧ R 0 ≤ 8 := by
      rcases hru with ⟨a, b⟩ | ⟨a, b, -⟩
      · rw [a] at e; simp at e
      · exact ⟨a, b⟩
    rw [mdoes_eq (hr e.2.1 e.2.2.1) (hg e.2.1 e.2.2.1) h0 h1 hW.1 hW.2 e.2.2.2.1 e.2.2.2.2]
    exact ⟨fun h => ⟨e.2.1, e.2.2.1, h⟩, fun h => h.2.2⟩
  · rw [if_neg e]
    constructor
    · intro h; omega
    · rintro ⟨w0, w1, h⟩
      exfalso
      have := of_decide_eq_true h
      exact e ⟨by omega, w0, w1, this.1, this.2.1⟩
theorem who_eq {what : Int} (hr : wrel Y w sg ln pl lg size lines) (hg : wg sg ln pl ss lg size lines longest) (h0 : Y 13 0 = R 0) (h1 : Y 13 1 = R 1) (h2 : Y 13 2 = R 2) (hru : ru_ok (R 0) (R 1)) (hd : rd_does (R 0) (R 1) lines longest spot = true) (hp : pr (R 0 * R 1) hands ly hs (Y 18)) : mo_who Y w spot what = x_who (R 0) (R 2) sg ln pl size spot ly hs what := by
  have hW := rd_does_W hru hd
  have cl := ru_cells hru
  unfold mo_who x_who
  rw [hr.1]
  refine sk_sm_congr _ _ (fun k k0 k1 => ?_)
  have k1' : k < size := by have := hg.2.2.2.2.2.1; omega
  obtain ⟨e1, -, -⟩ := hr.2.1 k k0 k1'
  obtain ⟨-, -, b1, b2, b3, b4⟩ := hg.1 k k0 k1'
  have cc := rd_cell_in hW.1 hW.2.1 hd b1 b2 b3 b4
  try simp only []
  rw [at_eq hr hg h0 h1 hW.1 hW.2.1 hd k0 k1', e1, h2]
  have ex : xw (R 0) ln pl spot k = rd_cell (R 0) spot (ln k) (pl k) := rfl
  rw [pr_ver (hp.1 (xw (R 0) ln pl spot k) (by rw [ex]; exact cc.1) (by rw [ex]; omega))]
theorem left_eq {c : Int} (hr : wrel Y w sg ln pl lg size lines) (hg : wg sg ln pl ss lg size lines longest) (h0 : Y 13 0 = R 0) (h1 : Y 13 1 = R 1) (hru : ru_ok (R 0) (R 1)) (hd : rd_does (R 0) (R 1) lines longest spot = true) : mo_left Y w spot c = x_lat (R 0) sg ss lg lines spot c := by
  have hW := rd_does_W hru hd
  obtain ⟨hp, hl, -, -, -, z1, z16⟩ := id hg
  have hk : ∀ k, 0 ≤ k → k < size → (xw (R 0) ln pl spot k = c ↔ x_ln (R 0) spot c = ln k ∧ x_pl (R 0) spot c = pl k) := by
    intro k k0 k1
    constructor
    · intro e
      rw [← e]
      exact xw_lp hW.1 hp hd k0 k1
    · rintro ⟨e1, e2⟩
      have := rd_cell_of (W := R 0) (Hh := R 1) (spot := spot) (c := c) hW.1
      rw [e1, e2] at this
      exact this
  have key : ∀ (n : Nat) (i : Int), 0 ≤ i → i + n = size → (∀ q, 0 ≤ q → q < i → xw (R 0) ln pl spot q ≠ c) → sk_ff (fun k => decide (mo_at Y w k (spot / 4) (spot % 4) = c)) (fun k => Y 15 (3 * (16 * w + k))) 26 i n = x_lat (R 0) sg ss lg lines spot c := by
    intro n
    induction n with
    | zero =>
      intro i i0 hi hno
      simp only [sk_ff]
      unfold x_lat
      rw [if_neg]
      rintro ⟨a1, a2, a3, a4⟩
      have b := hl.2.2.2 _ _ a1 a2 a3 a4
      have b2 := hl.2.1 _ a1 a2
      refine hno (ss (x_ln (R 0) spot c) + x_pl (R 0) spot c) (by omega) (by push_cast at hi; omega) ((hk _ (by omega) (by omega)).mpr ⟨b.1.symm, b.2.symm⟩)
    | succ n ih =>
      intro i i0 hi hno
      simp only [sk_ff]
      push_cast at hi
      rw [at_eq hr hg h0 h1 hW.1 hW.2.1 hd i0 (by omega)]
      by_cases e : xw (R 0) ln pl spot i = c
      · rw [if_pos (decide_eq_true e), (hr.2.1 i i0 (by omega)).1]
        obtain ⟨e1, e2⟩ := (hk i i0 (by omega)).mp e
        have b := hl.2.2.1 i i0 (by omega)
        obtain ⟨-, -, c1, c2, c3, c4⟩ := hp i i0 (by omega)
        unfold x_lat
        rw [e1, e2, if_pos ⟨c1, c2, c3, b.2⟩, b.1]
      · rw [if_neg (by rw [decide_eq_true_iff]; exact e)]
        exact ih (i + 1) (by omega) (by omega) (fun q a b => by
          by_cases z : q = i
          · rw [z]; exact e
          · exact hno q a (by omega))
  unfold mo_left
  rw [hr.1]
  exact key size.toNat 0 (by omega) (by omega) (fun q a b => by omega)
end RSPOT
