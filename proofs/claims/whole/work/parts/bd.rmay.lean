/-! ===== what is asked: who may have written it, which place is best, which fit ===== -/
/-- the rules of a page and its writings on both sides -/
def bw (S : Nat → Int) (Y : Nat → Int → Int) (R : Int → Int) (wn : Int) (sg ln pl ss lg : Int → Int → Int) (size lines longest : Int → Int) : Prop := (Y 13 0 = R 0 ∧ Y 13 1 = R 1 ∧ Y 13 2 = R 2) ∧ ru_ok (R 0) (R 1) ∧ S 23 = R 0 * R 1 ∧ S 27 = wn ∧ (0 ≤ wn ∧ wn ≤ 6) ∧ ∀ w, 0 ≤ w → w < wn → wrel Y w (sg w) (ln w) (pl w) (lg w) (size w) (lines w) ∧ wg (sg w) (ln w) (pl w) (ss w) (lg w) (size w) (lines w) (longest w)
theorem sk_sm_pos {f : Int → Int} : ∀ (n : Nat) (i : Int), (∀ j, 0 ≤ f j) → 0 ≤ sk_sm f i n
  | 0, _, _ => by simp only [sk_sm]; omega
  | n + 1, i, h => by
    have a := sk_sm_pos n (i + 1) h
    have b := h i
    simp only [sk_sm]
    omega
section RMAY
variable {S : Nat → Int} {Y : Nat → Int → Int} {R ly hs nc nle ni : Int → Int} {wn w spot hands nm a : Int} {sg ln pl ss lg : Int → Int → Int} {size lines longest : Int → Int}
theorem bw_spot (h : bw S Y R wn sg ln pl ss lg size lines longest) : mo_spot S Y w spot = 1 ↔ (0 ≤ w ∧ w < wn ∧ rd_does (R 0) (R 1) (lines w) (longest w) spot = true) := by
  obtain ⟨⟨h0, h1, h2⟩, hru, hc, hn, -, hw⟩ := h
  exact spot_eq (S := S) (fun a b => (hw w a b).1) (fun a b => (hw w a b).2) h0 h1 hru hc hn
theorem bw_who {what : Int} (h : bw S Y R wn sg ln pl ss lg size lines longest) (hp : pr (R 0 * R 1) hands ly hs (Y 18)) (w0 : 0 ≤ w) (w1 : w < wn) (hd : rd_does (R 0) (R 1) (lines w) (longest w) spot = true) : mo_who Y w spot what = x_who (R 0) (R 2) (sg w) (ln w) (pl w) (size w) spot ly hs what := by
  obtain ⟨⟨h0, h1, h2⟩, hru, hc, hn, -, hw⟩ := h
  exact who_eq (hw w w0 w1).1 (hw w w0 w1).2 h0 h1 h2 hru hd hp
theorem bw_size (h : bw S Y R wn sg ln pl ss lg size lines longest) (w0 : 0 ≤ w) (w1 : w < wn) : 1 ≤ size w ∧ size w ≤ 16 := by
  obtain ⟨-, -, -, -, -, hw⟩ := h
  exact (hw w w0 w1).2.2.2.2.2.2
theorem may_eq (h : bw S Y R wn sg ln pl ss lg size lines longest) (hp : pr (R 0 * R 1) hands ly hs (Y 18)) (w0 : 0 ≤ w) (w1 : w < wn) : x_may1 R ly hs (sg w) (ln w) (pl w) (size w) (lines w) (longest w) spot = mo_may S Y w spot := by
  unfold x_may1 mo_may x_std
  by_cases e : rd_does (R 0) (R 1) (lines w) (longest w) spot = true
  · have e1 := (bw_spot (w := w) (spot := spot) h).mpr ⟨w0, w1, e⟩
    have a0 := bw_who (what := 0) h hp w0 w1 e
    have a2 := bw_who (what := 2) h hp w0 w1 e
    have b2 := x_who_in (R 0) (R 2) (sg w) (ln w) (pl w) (size w) spot ly hs 2 (bw_size h w0 w1).2
    rw [e1, a0, a2]
    generalize x_who (R 0) (R 2) (sg w) (ln w) (pl w) (size w) spot ly hs 2 = q2 at *
    generalize x_who (R 0) (R 2) (sg w) (ln w) (pl w) (size w) spot ly hs 0 = q0 at *
    by_cases z : q2 = 0
    · rw [if_pos (⟨e, by omega⟩ : rd_does (R 0) (R 1) (lines w) (longest w) spot = true ∧ q2 ≤ 0)]
      by_cases y : 0 < q0
      · rw [if_pos y, if_pos ⟨rfl, z, y⟩]
      · rw [if_neg y, if_neg (fun q => y q.2.2)]
    · rw [if_neg (fun q : rd_does (R 0) (R 1) (lines w) (longest w) spot = true ∧ q2 ≤ 0 => z (by have := q.2; omega)), if_neg (by omega), if_neg (fun q => z q.2.1)]
  · rw [if_neg (fun q : rd_does (R 0) (R 1) (lines w) (longest w) spot = true ∧ x_who (R 0) (R 2) (sg w) (ln w) (pl w) (size w) spot ly hs 2 ≤ 0 => e q.1), if_neg (by omega), if_neg (fun q => e ((bw_spot (w := w) (spot := spot) h).mp q.1).2.2)]
theorem best_eq (h : bw S Y R wn sg ln pl ss lg size lines longest) (hp : pr (R 0 * R 1) hands ly hs (Y 18)) (w0 : 0 ≤ w) (w1 : w < wn) : ∀ (n : Nat) (i : Int) (m : Int × Int) (b : Int), m.2 = b → 0 ≤ i → ((b = -1 ∧ m.1 = 0) ∨ (b ≠ -1 ∧ m.1 = mo_who Y w b 0)) → (sk_fd (x_best1 R ly hs (sg w) (ln w) (pl w) (size w) (lines w) (longest w)) i n m).2 = sk_fd (mo_best S Y w) i n b := by
  intro n
  induction n with
  | zero => intro i m b e _ _; simp only [sk_fd]; exact e
  | succ n ih =>
    intro i m b e i0 hb
    simp only [sk_fd]
    have key : mo_may S Y w i = 1 → x_std (R 0) (R 1) (R 2) (sg w) (ln w) (pl w) (size w) (lines w) (longest w) i ly hs = mo_who Y w i 0 ∧ 0 < mo_who Y w i 0 := by
      intro q
      have e1 : rd_does (R 0) (R 1) (lines w) (longest w) i = true := by
        unfold mo_may at q
        split at q
        · next z => exact ((bw_spot h).mp z.1).2.2
        · omega
      have a0 := bw_who (what := 0) h hp w0 w1 e1
      rw [← may_eq h hp w0 w1] at q
      unfold x_may1 at q
      rw [a0]
      unfold x_std at q ⊢
      by_cases z : rd_does (R 0) (R 1) (lines w) (longest w) i = true ∧ x_who (R 0) (R 2) (sg w) (ln w) (pl w) (size w) i ly hs 2 ≤ 0
      · rw [if_pos z] at q ⊢
        refine ⟨rfl, ?_⟩
        split at q
        · assumption
        · omega
      · rw [if_neg z, if_neg (by omega)] at q; omega
    have key2 : mo_may S Y w i ≠ 1 → ¬ 0 < x_std (R 0) (R 1) (R 2) (sg w) (ln w) (pl w) (size w) (lines w) (longest w) i ly hs := by
      intro q z
      rw [← may_eq h hp w0 w1] at q
      unfold x_may1 at q
      rw [if_pos z] at q
      exact q rfl
    by_cases q : mo_may S Y w i = 1
    · obtain ⟨k1, k2⟩ := key q
      by_cases z : b = -1 ∨ mo_who Y w b 0 < mo_who Y w i 0
      · have e1 : x_best1 R ly hs (sg w) (ln w) (pl w) (size w) (lines w) (longest w) i m = (mo_who Y w i 0, i) := by
          unfold x_best1
          rw [k1, if_pos (by rcases hb with ⟨h1, h2⟩ | ⟨h1, h2⟩ <;> omega)]
        have e2 : mo_best S Y w i b = i := if_pos ⟨q, z⟩
        rw [e1, e2]
        exact ih (i + 1) _ i rfl (by omega) (Or.inr ⟨by omega, rfl⟩)
      · have e1 : x_best1 R ly hs (sg w) (ln w) (pl w) (size w) (lines w) (longest w) i m = m := by
          unfold x_best1
          rw [k1, if_neg (by rcases hb with ⟨h1, h2⟩ | ⟨h1, h2⟩ <;> omega)]
        have e2 : mo_best S Y w i b = b := if_neg (fun y => z y.2)
        rw [e1, e2]
        exact ih (i + 1) m b e (by omega) hb
    · have k := key2 q
      have m0 : 0 ≤ m.1 := by
        rcases hb with ⟨h1, h2⟩ | ⟨h1, h2⟩
        · omega
        · rw [h2]
          unfold mo_who
          exact sk_sm_pos _ _ (fun j => by (try simp only []); split <;> omega)
      have e1 : x_best1 R ly hs (sg w) (ln w) (pl w) (size w) (lines w) (longest w) i m = m := by
        unfold x_best1
        rw [if_neg (by omega)]
      have e2 : mo_best S Y w i b = b := if_neg (fun y => q y.1)
      rw [e1, e2]
      exact ih (i + 1) m b e (by omega) hb
/-- the notes on both sides -/
def bn (S : Nat → Int) (Y : Nat → Int → Int) (nc nle ni : Int → Int) (nm : Int) : Prop := S 45 = nm ∧ ∀ k, 0 ≤ k → k < nm → Y 26 k = nc k ∧ Y 27 k = nle k ∧ Y 28 k = ni k
theorem fit_eq (h : bw S Y R wn sg ln pl ss lg size lines longest) (hn : bn S Y nc nle ni nm) (w0 : 0 ≤ w) (w1 : w < wn) : x_asn R (sg w) (ss w) (lg w) (lines w) (longest w) spot nc nle ni nm = mo_fit S Y w spot := by
  unfold x_asn mo_fit
  by_cases e : rd_does (R 0) (R 1) (lines w) (longest w) spot = true
  · rw [if_pos e, if_pos ((bw_spot (w := w) (spot := spot) h).mpr ⟨w0, w1, e⟩), hn.1]
    obtain ⟨⟨h0, h1, h2⟩, hru, hc, hn', -, hw⟩ := h
    refine sk_ff_congr _ _ (fun k k0 k1 => ?_)
    obtain ⟨e1, e2, e3⟩ := hn.2 k k0 (by omega)
    (try simp only [])
    rw [e1, e2, e3, left_eq (hw w w0 w1).1 (hw w w0 w1).2 h0 h1 hru e]
    exact ⟨rfl, trivial⟩
  · rw [if_neg e, if_neg (fun q => e ((bw_spot (w := w) (spot := spot) h).mp q).2.2)]
theorem fts_eq (h : bw S Y R wn sg ln pl ss lg size lines longest) (hn : bn S Y nc nle ni nm) : x_fts R nc nle ni nm wn sg ss lg lines longest a = mo_fts S Y a := by
  unfold x_fts mo_fts
  have e1 := h.2.2.1
  have e2 := h.2.2.2.1
  rw [e1, e2]
  rw [nfo_congr a _ _ 0 0 (fun w w0 w1 j j0 j1 => ⟨fit_eq h hn w0 (by have := h.2.2.2.2.1; omega), rfl⟩)]
end RMAY
