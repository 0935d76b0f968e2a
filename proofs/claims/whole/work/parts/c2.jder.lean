/-! ===== both sides at once: what follows from it ===== -/
def jhold (ho : Int) (qs : Int → List lq_C) : Option (List lq_C) := if ho < 0 then none else some (qs ho)
section JDER
variable {g : sk_G} {M M1 : sk_M} {A bs N : Nat} {scr : Int → Int} {k : Int} {ra rb nl nw : Nat} {R H R2 H2 T f f2 nc nle ni rf : Int → Int} {b1 b2 : Bool} {hands h2 sc dr n i lc wn ho next kept has nm : Int} {lawF wrF pgs : Int → Option Nat} {lad wad : Int → Nat} {qs : Int → List lq_C} {sg ln pl ss lg : Int → Int → Int} {size lines longest letters : Int → Int} {cnt : Int → hC} {c ci : hC} {nh : Int} {S : Nat → Int} {Y : Nat → Int → Int}
theorem wg_ok {w : Int} (h : bw S Y R wn sg ln pl ss lg size lines longest) (w0 : 0 ≤ w) (w1 : w < wn) : mo_ok Y w ∧ mo_di Y w ∧ mo_l0 Y w ∧ (∀ k, 0 ≤ k → k < 4 → 0 ≤ Y 17 (4 * w + k) ∧ Y 17 (4 * w + k) < 100) ∧ wl (ln w) (pl w) (ss w) (lg w) (size w) (lines w) ∧ wr_l0 (ss w) (lg w) (lines w) ∧ (∀ k, 0 ≤ k → k < lg w 0 → 0 ≤ sg w k ∧ sg w k ≤ 26) := by
  obtain ⟨⟨a1, a2, a3⟩, b1, b2, b3, b4, b5, b6, b7⟩ := h.2.2.2.2.2 w w0 w1
  obtain ⟨c1, c2, c3, c4⟩ := id b2
  have l0 := c2 0 (by omega) (by omega)
  have i0 := a3 0 (by omega) (by omega)
  rw [if_pos (by omega)] at i0
  have i0' : Y 17 (4 * w) = lg w 0 := by rw [show 4 * w = 4 * w + 0 by omega]; exact i0
  have hsg : ∀ k, 0 ≤ k → k < lg w 0 → 0 ≤ sg w k ∧ sg w k ≤ 26 := fun k k0 k1 => by
    have := b1 k k0 (by omega)
    omega
  refine ⟨⟨by omega, by omega, fun k k0 k1 => ?_⟩, fun k1 k2 h1 h2 h3 he => ?_, ⟨by omega, by omega, fun k k0 k1 => ?_⟩, fun k k0 k1 => ?_, b2, ⟨c1, by omega, by omega, by omega, by omega⟩, hsg⟩
  · have q := a2 k k0 (by omega)
    have b := b1 k k0 (by omega)
    rw [q.1, q.2.1, q.2.2]
    omega
  · have q1 := a2 k1 h1 (by omega)
    have q2 := a2 k2 (by omega) (by omega)
    have d1 := c3 k1 h1 (by omega)
    have d2 := c3 k2 (by omega) (by omega)
    rw [q1.2.1, q1.2.2, q2.2.1, q2.2.2] at he
    rw [he.1, he.2] at d1
    omega
  · have q := a2 k k0 (by omega)
    rw [q.1]
    exact hsg k k0 (by omega)
  · rw [a3 k k0 k1]
    split
    · have := c2 k k0 (by omega)
      omega
    · omega
theorem jd_bounds (hX : JX g M A bs N scr ra rb nl nw R H R2 H2 T f f2 nc nle ni rf b1 b2 hands h2 sc dr n i lc wn ho next kept has nm lawF wrF pgs lad wad qs sg ln pl ss lg size lines longest letters cnt c ci) (hR : JR k ra rb nl nw R H R2 H2 T f f2 nc nle ni rf b1 b2 hands h2 sc dr n i lc wn ho next kept has nm lawF wrF pgs lad wad qs sg ln pl ss lg size lines longest letters cnt c ci nh S Y) : (0 ≤ hands ∧ hands ≤ 4) ∧ ru_ok (R 0) (R 1) ∧ (0 ≤ R 2 ∧ R 2 < 100) ∧ (0 ≤ R 0 * R 1 ∧ R 0 * R 1 ≤ 40) ∧ (S 23 = R 0 * R 1 ∧ S 27 = wn ∧ S 22 = hands) ∧ (0 < S 23 ↔ 0 < hands) ∧ (0 ≤ wn ∧ wn ≤ 6) := by
  obtain ⟨p0, pr, hr, hru, ⟨l0, l1⟩, h0, h4⟩ := hX.1.1
  obtain ⟨r1, r2, r3, r4, r5, r6, ⟨r7, r71, r72, r73, r74, r75⟩, r8, r9⟩ := hR
  have cl := ru_cl hru
  have cz := ru_cells hru
  obtain ⟨a1, a2, a3, a4, a5, a6⟩ := r1
  refine ⟨⟨h0, h4⟩, hru, ⟨l0, l1⟩, ⟨by omega, by omega⟩, ⟨a3, a4, r73⟩, ⟨fun q => ?_, fun q => ?_⟩, a5⟩
  · by_cases e : hands = 0
    · obtain ⟨e1, e2⟩ := r8.1 e
      rw [a3, e1] at q
      omega
    · omega
  · have e1 := (r8.2.1 q).1
    have : R 0 * R 1 ≠ 0 := fun e => by have := cz.2.2.mp e; omega
    omega
theorem jd_rx (hX : JX g M A bs N scr ra rb nl nw R H R2 H2 T f f2 nc nle ni rf b1 b2 hands h2 sc dr n i lc wn ho next kept has nm lawF wrF pgs lad wad qs sg ln pl ss lg size lines longest letters cnt c ci) (hR : JR k ra rb nl nw R H R2 H2 T f f2 nc nle ni rf b1 b2 hands h2 sc dr n i lc wn ho next kept has nm lawF wrF pgs lad wad qs sg ln pl ss lg size lines longest letters cnt c ci nh S Y) : rx S Y := by
  obtain ⟨⟨h0, h4⟩, hru, ⟨l0, l1⟩, ⟨c0, c1⟩, ⟨e1, e2, e3⟩, e4, w0, w6⟩ := jd_bounds hX hR
  obtain ⟨r1, r2, r3, r4, r5, r6, ⟨r7, r71, r72, r73, r74, r75⟩, r8, r9⟩ := hR
  obtain ⟨⟨y0, y1, y2⟩, -⟩ := id r1
  refine ⟨fun q => ?_, by omega, by omega, by omega, by omega, fun w q0 q1 => (wg_ok r1 q0 (by omega)).1, r3.2.2.2.1.1, by omega, by omega⟩
  have a := (r8.2.1 (e4.mp q)).1
  unfold mo_sk
  rw [y0, y1]
  rcases hru with h | h <;> omega
theorem jd_rfb (hR : JR k ra rb nl nw R H R2 H2 T f f2 nc nle ni rf b1 b2 hands h2 sc dr n i lc wn ho next kept has nm lawF wrF pgs lad wad qs sg ln pl ss lg size lines longest letters cnt c ci nh S Y) : rfb Y ∧ rfo rf := by
  obtain ⟨r1, r2, r3, r4, r5, ⟨r6, r61, r62, r63⟩, r7⟩ := hR
  exact ⟨fun j j0 j1 => by have := r6 j j0 j1; omega, fun j j0 j1 => by have := r6 j j0 j1; omega⟩
theorem jd_rn (hX : JX g M A bs N scr ra rb nl nw R H R2 H2 T f f2 nc nle ni rf b1 b2 hands h2 sc dr n i lc wn ho next kept has nm lawF wrF pgs lad wad qs sg ln pl ss lg size lines longest letters cnt c ci) (hR : JR k ra rb nl nw R H R2 H2 T f f2 nc nle ni rf b1 b2 hands h2 sc dr n i lc wn ho next kept has nm lawF wrF pgs lad wad qs sg ln pl ss lg size lines longest letters cnt c ci nh S Y) : rn_ok S Y := by
  obtain ⟨⟨h0, h4⟩, hru, ⟨l0, l1⟩, ⟨c0, c1⟩, ⟨e1, e2, e3⟩, e4, w0, w6⟩ := jd_bounds hX hR
  obtain ⟨r1, ⟨⟨b1, b2⟩, n0, n1, n2⟩, -⟩ := hR
  refine ⟨by omega, by omega, fun j j0 j1 => ?_⟩
  obtain ⟨q1, q2, q3⟩ := b2 j j0 (by omega)
  have := n2 j j0 (by omega)
  rw [q1, q2, q3, e1]
  exact this
theorem jd_rh (hX : JX g M A bs N scr ra rb nl nw R H R2 H2 T f f2 nc nle ni rf b1 b2 hands h2 sc dr n i lc wn ho next kept has nm lawF wrF pgs lad wad qs sg ln pl ss lg size lines longest letters cnt c ci) (hR : JR k ra rb nl nw R H R2 H2 T f f2 nc nle ni rf b1 b2 hands h2 sc dr n i lc wn ho next kept has nm lawF wrF pgs lad wad qs sg ln pl ss lg size lines longest letters cnt c ci nh S Y) : rh S Y (jhold ho qs) := by
  obtain ⟨-, ⟨l0, l4⟩, -, hh⟩ := hX.2.2.1
  obtain ⟨r1, r2, r3, r4, r5, r6, ⟨r7, r71, r72, r73, r74, r75⟩, r8, r9⟩ := hR
  unfold jhold
  by_cases e : ho < 0
  · rw [if_pos e]
    show S 30 = -1
    omega
  · rw [if_neg e]
    have q := r9 ho (by omega) (by omega)
    refine ⟨by omega, by omega, ?_, q.2⟩
    rw [r71]
    exact q.1
theorem jd_yx (hX : JX g M A bs N scr ra rb nl nw R H R2 H2 T f f2 nc nle ni rf b1 b2 hands h2 sc dr n i lc wn ho next kept has nm lawF wrF pgs lad wad qs sg ln pl ss lg size lines longest letters cnt c ci) (hR : JR k ra rb nl nw R H R2 H2 T f f2 nc nle ni rf b1 b2 hands h2 sc dr n i lc wn ho next kept has nm lawF wrF pgs lad wad qs sg ln pl ss lg size lines longest letters cnt c ci nh S Y) : yx nh (jhold ho qs) S Y ∧ wx nh (Y 18) 999 := by
  obtain ⟨⟨h0, h4⟩, hru, ⟨l0, l1⟩, ⟨c0, c1⟩, ⟨e1, e2, e3⟩, e4, w0, w6⟩ := jd_bounds hX hR
  have a := jd_rx hX hR
  have b := jd_rh hX hR
  obtain ⟨r1, r2, r3, r4, r5, r6, r7, ⟨-, -, -, -, q1, q2⟩, r9⟩ := hR
  exact ⟨⟨a, b, ⟨q2, by omega, q1.2.2⟩, by omega, by omega⟩, r3.2.2.2.1⟩
theorem jd_dx (hX : JX g M A bs N scr ra rb nl nw R H R2 H2 T f f2 nc nle ni rf b1 b2 hands h2 sc dr n i lc wn ho next kept has nm lawF wrF pgs lad wad qs sg ln pl ss lg size lines longest letters cnt c ci) (hR : JR k ra rb nl nw R H R2 H2 T f f2 nc nle ni rf b1 b2 hands h2 sc dr n i lc wn ho next kept has nm lawF wrF pgs lad wad qs sg ln pl ss lg size lines longest letters cnt c ci nh S Y) (h : 0 < S 23) : dx S Y := by
  obtain ⟨⟨h0, h4⟩, hru, ⟨l0, l1⟩, ⟨c0, c1⟩, ⟨e1, e2, e3⟩, e4, w0, w6⟩ := jd_bounds hX hR
  have a := jd_rx hX hR
  obtain ⟨r1, r2, r3, r4, r5, r6, ⟨r7, r71, r72, r73, r74, r75⟩, r8, r9⟩ := hR
  have := e4.mp h
  exact ⟨a.1 h, ⟨by omega, by omega⟩, fun w q0 q1 => ⟨(wg_ok r1 q0 (by omega)).1, (wg_ok r1 q0 (by omega)).2.1⟩, ⟨by omega, by omega⟩, ⟨by omega, by omega⟩, by omega, by omega⟩
theorem jd_lh (hX : JX g M A bs N scr ra rb nl nw R H R2 H2 T f f2 nc nle ni rf b1 b2 hands h2 sc dr n i lc wn ho next kept has nm lawF wrF pgs lad wad qs sg ln pl ss lg size lines longest letters cnt c ci) : lh M A (lad ho) (jhold ho qs) ∧ (jhold ho qs ≠ none → lhA A (lad ho) ∧ lad ho + 3 < M.1) := by
  obtain ⟨hs, ⟨l0, l4⟩, -, hh⟩ := hX.2.2.1
  have h6 := hX.2.2.2.2.2.1
  unfold jhold
  by_cases e : ho < 0
  · rw [if_pos e]
    have : ho = -1 := by omega
    subst this
    exact ⟨⟨nl, nw, lc, wn, lawF, wrF, hs⟩, fun q => (q rfl).elim⟩
  · rw [if_neg e]
    obtain ⟨a1, a2, a3, a4, a5⟩ := h6 ho (by omega) (by omega)
    exact ⟨⟨nl, nw, lc, wn, ho, lawF, wrF, hs, by omega, by omega, l4, a1, a2⟩, fun _ => ⟨a3, a4⟩⟩
theorem jd_xH (hR : JR k ra rb nl nw R H R2 H2 T f f2 nc nle ni rf b1 b2 hands h2 sc dr n i lc wn ho next kept has nm lawF wrF pgs lad wad qs sg ln pl ss lg size lines longest letters cnt c ci nh S Y) : xH H hands ∧ (0 < hands → 2 ≤ R 0) ∧ (hands = 0 → R 0 = 0) ∧ pg_ok c.1 c.2.1 := by
  obtain ⟨r1, r2, r3, r4, r5, r6, r7, ⟨q1, q2, q3, q4, q5⟩, r9⟩ := hR
  exact ⟨fun j j0 j1 => (q3 j j0 j1).2, fun e => (q2 e).1, fun e => (q1 e).1, r3.2.2.2.2.2.2⟩
theorem jd_wl (hR : JR k ra rb nl nw R H R2 H2 T f f2 nc nle ni rf b1 b2 hands h2 sc dr n i lc wn ho next kept has nm lawF wrF pgs lad wad qs sg ln pl ss lg size lines longest letters cnt c ci nh S Y) : (∀ w, 0 ≤ w → w < wn → wl (ln w) (pl w) (ss w) (lg w) (size w) (lines w)) ∧ (∀ w, 0 ≤ w → w < wn → wr_l0 (ss w) (lg w) (lines w) ∧ ∀ k, 0 ≤ k → k < lg w 0 → 0 ≤ sg w k ∧ sg w k ≤ 26) ∧ (∀ w, 0 ≤ w → w < S 27 → mo_l0 Y w) ∧ (∀ w, 0 ≤ w → w < S 27 → mo_di Y w) ∧ (∀ w, 0 ≤ w → w < S 27 → mo_ok Y w) ∧ ∀ w, 0 ≤ w → w < S 27 → ∀ k, 0 ≤ k → k < 4 → 0 ≤ Y 17 (4 * w + k) ∧ Y 17 (4 * w + k) < 100 := by
  have r1 := hR.1
  have e := r1.2.2.2.1
  exact ⟨fun w w0 w1 => (wg_ok r1 w0 w1).2.2.2.2.1, fun w w0 w1 => (wg_ok r1 w0 w1).2.2.2.2.2, fun w w0 w1 => (wg_ok r1 w0 (by omega)).2.2.1, fun w w0 w1 => (wg_ok r1 w0 (by omega)).2.1, fun w w0 w1 => (wg_ok r1 w0 (by omega)).1, fun w w0 w1 => (wg_ok r1 w0 (by omega)).2.2.2.1⟩
/-- the reference's call only tries out, the class's did nothing -/
theorem JM_q {X : sk_X} {as : List sk_V} {v : Int} (hX : JX g M1 A bs N scr ra rb nl nw R H R2 H2 T f f2 nc nle ni rf b1 b2 hands h2 sc dr n i lc wn ho next kept has nm lawF wrF pgs lad wad qs sg ln pl ss lg size lines longest letters cnt c ci) (ht : tm M1 A) (hm : md M1 M1 (A + 53) S Y) (hR : JR k ra rb nl nw R H R2 H2 T f f2 nc nle ni rf b1 b2 hands h2 sc dr n i lc wn ho next kept has nm lawF wrF pgs lad wad qs sg ln pl ss lg size lines longest letters cnt c ci nh S Y) (h5 : k < 512) (h21 : j21 Y)
    (hc : ∀ (d : Nat) (Q : sk_P), 125 ≤ d → (∀ (M2 : sk_M) (S' : Nat → Int) (Y' : Nat → Int → Int), md M1 M2 (A + 53) S' Y' → (∀ j, ¬ ts j → S' j = S j) → (∀ k, ¬ ty k → Y' k = Y k) → j21 Y' → Q (some (.inl v)) M2) → sk_call g d 0 0 X (.inr (.inr (some (A + 53))) :: as) M1 Q) : JM g A bs N scr (k + 1) X as v M1 := by
  have h14 := hX.2.2.2.2.2.2.2.2.2.2.2.2
  refine ⟨h14.2.2.2.1.1, by rw [hm.1], fun d Q hd hQ => hc d Q hd (fun M2 S' Y' hm' hS hY h21' => hQ M2 (J_q hX ht hR h5 hm' hS hY h21'))⟩
end JDER
