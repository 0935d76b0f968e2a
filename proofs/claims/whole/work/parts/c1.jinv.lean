/-! ===== both sides at once: the invariant ===== -/
/-- the class's side -/
def JX (g : sk_G) (M : sk_M) (A bs N : Nat) (scr : Int → Int) (ra rb nl nw : Nat) (R H R2 H2 T f f2 nc nle ni rf : Int → Int) (b1 b2 : Bool) (hands h2 sc dr n i lc wn ho next kept has nm : Int) (lawF wrF pgs : Int → Option Nat) (lad wad : Int → Nat) (qs : Int → List lq_C) (sg ln pl ss lg : Int → Int → Int) (size lines longest letters : Int → Int) (cnt : Int → hC) (c ci : hC) : Prop := g1 M A ra rb R H R2 H2 hands h2 b1 b2 sc dr ∧ g2 M A T n i ∧ g3 M A nl nw lc wn ho lawF wrF ∧ g4 M A nl ∧ g5 M A nw ∧ g6 M A nl lc lawF lad qs ∧ g7 M A nw wn wrF wad sg ln pl ss lg size lines longest letters ∧ g8 M A c f ∧ hg M A pgs cnt next kept has ∧ g10 M A ci f2 ∧ no_at M (A + 37) nc nle ni nm ∧ M.2 (A + 49) = (20, 5, sk_I rf) ∧ g14 g M A bs N scr
/-- rules and hands -/
def j8 (R H : Int → Int) (hands nh : Int) (Y : Nat → Int → Int) : Prop := (hands = 0 → R 0 = 0 ∧ R 1 = 0) ∧ (0 < hands → 2 ≤ R 0 ∧ 1 ≤ R 2) ∧ (∀ j, 0 ≤ j → j < 2 * hands → Y 14 j = H j ∧ 0 ≤ H j ∧ H j ≤ 9) ∧ (∀ j, 0 ≤ j → j < hands → 1 ≤ H (2 * j)) ∧ (hands ≤ nh ∧ 1 ≤ nh ∧ nh ≤ 4) ∧ hb8 nh (Y 14)
def j9 (lc : Int) (qs : Int → List lq_C) (Y : Nat → Int → Int) : Prop := ∀ l, 0 ≤ l → l < lc → mla Y l 0 0 (qs l) ∧ (qs l).length ≤ 140 ∧ (lfl (qs l)).length ≤ 520 ∧ ∀ q ∈ qs l, lq_good q
/-- what the two sides have in common, behind k calls -/
def JR (k : Int) (ra rb nl nw : Nat) (R H R2 H2 T f f2 nc nle ni rf : Int → Int) (b1 b2 : Bool) (hands h2 sc dr n i lc wn ho next kept has nm : Int) (lawF wrF pgs : Int → Option Nat) (lad wad : Int → Nat) (qs : Int → List lq_C) (sg ln pl ss lg : Int → Int → Int) (size lines longest letters : Int → Int) (cnt : Int → hC) (c ci : hC) (nh : Int) (S : Nat → Int) (Y : Nat → Int → Int) : Prop := bw S Y R wn sg ln pl ss lg size lines longest ∧ (bn S Y nc nle ni nm ∧ no_ok R nc nle ni nm) ∧ sn (R 0 * R 1) hands nh f c (Y 18) ∧ (hrl (R 0 * R 1) hands nh f c.2.2.2.2.1 1 cnt next kept (Y 20) ∧ S 33 = kept) ∧ (S 48 = has ∧ (has = 1 → sn (R 0 * R 1) hands nh f2 ci (Y 30) ∧ ci.2.2.2.2.1 ≤ 30 * k)) ∧ ((∀ j, 0 ≤ j → j < 5 → Y 19 j = rf j ∧ 0 ≤ rf j ∧ rf j ≤ k) ∧ c.2.2.2.2.1 ≤ 30 * k ∧ 0 ≤ k ∧ k ≤ 512) ∧ ((S 31 = sc ∧ 0 ≤ sc ∧ sc ≤ 9) ∧ S 30 = ho ∧ S 13 = lc ∧ S 22 = hands ∧ S 2 = n ∧ ta T (Y 1) n) ∧ j8 R H hands nh Y ∧ j9 lc qs Y
def j21 (Y : Nat → Int → Int) : Prop := ∀ i, 0 ≤ i → i < 6 → 0 ≤ Y 21 i ∧ Y 21 i < 6
/-- between calls -/
def J (g : sk_G) (A bs N : Nat) (scr : Int → Int) (k : Int) (M : sk_M) : Prop := ∃ (ra rb nl nw : Nat) (R H R2 H2 T f f2 nc nle ni rf : Int → Int) (b1 b2 : Bool) (hands h2 sc dr n i lc wn ho next kept has nm : Int) (lawF wrF pgs : Int → Option Nat) (lad wad : Int → Nat) (qs : Int → List lq_C) (sg ln pl ss lg : Int → Int → Int) (size lines longest letters : Int → Int) (cnt : Int → hC) (c ci : hC) (nh : Int) (S : Nat → Int) (Y : Nat → Int → Int), JX g M A bs N scr ra rb nl nw R H R2 H2 T f f2 nc nle ni rf b1 b2 hands h2 sc dr n i lc wn ho next kept has nm lawF wrF pgs lad wad qs sg ln pl ss lg size lines longest letters cnt c ci ∧ tm M A ∧ md M M (A + 53) S Y ∧ JR k ra rb nl nw R H R2 H2 T f f2 nc nle ni rf b1 b2 hands h2 sc dr n i lc wn ho next kept has nm lawF wrF pgs lad wad qs sg ln pl ss lg size lines longest letters cnt c ci nh S Y ∧ j21 Y
/-- between the class's call and the reference's, which is to answer v -/
def JM (g : sk_G) (A bs N : Nat) (scr : Int → Int) (k : Int) (X : sk_X) (as : List sk_V) (v : Int) (M1 : sk_M) : Prop := M1.2 bs = (30, N, sk_I scr) ∧ (M1.2 (A + 53)).1 = 12 ∧ ∀ (d : Nat) (Q : sk_P), 125 ≤ d → (∀ M2, J g A bs N scr k M2 → Q (some (.inl v)) M2) → sk_call g d 0 0 X (.inr (.inr (some (A + 53))) :: as) M1 Q
section JINV
variable {g : sk_G} {M M1 : sk_M} {A bs N : Nat} {scr : Int → Int} {k : Int} {ra rb nl nw : Nat} {R H R2 H2 T f f2 nc nle ni rf : Int → Int} {b1 b2 : Bool} {hands h2 sc dr n i lc wn ho next kept has nm : Int} {lawF wrF pgs : Int → Option Nat} {lad wad : Int → Nat} {qs : Int → List lq_C} {sg ln pl ss lg : Int → Int → Int} {size lines longest letters : Int → Int} {cnt : Int → hC} {c ci : hC} {nh : Int} {S : Nat → Int} {Y : Nat → Int → Int}
theorem pgb (h : hg M A pgs cnt next kept has) {j : Int} {b : Nat} (j0 : 0 ≤ j) (j1 : j < 40) (jb : pgs j = some b) : A + 85 ≤ b ∧ b + 2 < M.1 := ⟨(h.2.2.1 j b j0 j1 jb).1, (h.2.2.1 j b j0 j1 jb).2.1⟩
/-- nothing of the class but what is tried out has changed -/
theorem JX_e (h : JX g M A bs N scr ra rb nl nw R H R2 H2 T f f2 nc nle ni rf b1 b2 hands h2 sc dr n i lc wn ho next kept has nm lawF wrF pgs lad wad qs sg ln pl ss lg size lines longest letters cnt c ci) (h1 : M.1 ≤ M1.1) (he : ∀ q, q < M.1 → ¬ ((A + 25 ≤ q ∧ q ≤ A + 27) ∨ (A + 41 ≤ q ∧ q ≤ A + 48) ∨ (A + 50 ≤ q ∧ q ≤ A + 83)) → M1.2 q = M.2 q) : JX g M1 A bs N scr ra rb nl nw R H R2 H2 T f f2 nc nle ni rf b1 b2 hands h2 sc dr n i lc wn ho next kept has nm lawF wrF pgs lad wad qs sg ln pl ss lg size lines longest letters cnt c ci := by
  obtain ⟨h01, h02, h03, h04, h05, h06, h07, h08, h09, h10, h11, h12, h14⟩ := h
  have e14 := h14.2.2.2.2.2
  have hA : ∀ q, q < A + 25 → M1.2 q = M.2 q := fun q hq => he q (by omega) (by omega)
  have hB : ∀ q, A + 85 ≤ q → q < M.1 → M1.2 q = M.2 q := fun q hq hq2 => he q hq2 (by omega)
  have l4 := h04.2
  have l5 := h05.2
  refine ⟨g1_e h01 (hA _ (by omega)) (fun q q0 q1 => hA _ (by omega)), g2_e h02 (fun q q0 q1 => hA _ (by omega)), g3_e h03 (fun q q0 q1 => hA _ (by omega)), g4_e h04 h1 (fun q q0 q1 => ?_), g5_e h05 h1 (fun q q0 q1 => ?_), g6_e h06 h1 (fun l q l0 l1 q0 q1 => ?_), g7_e h07 h1 (fun w q w0 w1 q0 q1 => ?_), g8_e h08 (fun q hq => he q (by omega) (by omega)), hg_mv h09 h1 (he _ (by omega) (by omega)) (he _ (by omega) (by omega)) (fun j b q j0 j1 jb q0 q1 => ?_), g10_e h10 (fun q q0 q1 => he q (by omega) (by omega)), g11_e h11 (fun q q0 q1 => he q (by omega) (by omega)), (he _ (by omega) (by omega)).trans h12, g14_e h14 h1 (fun q hq => he q (by omega) (by omega))⟩
  · have := l4.1
    unfold lhA at this
    by_cases e : q < A + 25
    · exact hA q e
    · exact hB q (by omega) (by omega)
  · by_cases e : q < A + 25
    · exact hA q e
    · exact hB q (by omega) (by omega)
  · obtain ⟨-, -, a3, a4, -⟩ := h06 l l0 l1
    unfold lhA at a3
    by_cases e : q < A + 25
    · exact hA q e
    · exact hB q (by omega) (by omega)
  · have a := (h07.1 w w0 w1).2.2.1
    have b := (h07.2 w w0 w1).1
    by_cases e : q < A + 25
    · exact hA q e
    · exact hB q (by omega) (by omega)
  · have := pgb h09 j0 j1 jb
    exact hB q (by omega) (by omega)
/-- numbers and rows of the reference that are for trying out -/
def ts (j : Nat) : Prop := j = 0 ∨ j = 3 ∨ j = 4 ∨ j = 5 ∨ j = 14 ∨ j = 19 ∨ j = 34 ∨ j = 35 ∨ j = 36
def ty (k : Nat) : Prop := k = 9 ∨ k = 10 ∨ k = 11 ∨ k = 12 ∨ k = 21 ∨ k = 22 ∨ k = 23 ∨ k = 24 ∨ k = 25 ∨ k = 29
theorem mla_e {S' : Nat → Int} {Y' : Nat → Int → Int} (hY : ∀ k, ¬ ty k → Y' k = Y k) {x m c : Int} {qs : List lq_C} (h : mla Y x m c qs) : mla Y' x m c qs := mla_yw (hY 2 (by unfold ty; omega)) (hY 3 (by unfold ty; omega)) (hY 5 (by unfold ty; omega)) (hY 6 (by unfold ty; omega)) (hY 7 (by unfold ty; omega)) (hY 8 (by unfold ty; omega)) h
theorem bw_e {S' : Nat → Int} {Y' : Nat → Int → Int} (h : bw S Y R wn sg ln pl ss lg size lines longest) (e23 : S' 23 = S 23) (e27 : S' 27 = S 27) (e13 : Y' 13 = Y 13) (e15 : Y' 15 = Y 15) (e16 : Y' 16 = Y 16) (e17 : Y' 17 = Y 17) : bw S' Y' R wn sg ln pl ss lg size lines longest := by
  obtain ⟨a1, a2, a3, a4, a5, a6⟩ := h
  refine ⟨by rw [e13]; exact a1, a2, e23.trans a3, e27.trans a4, a5, fun w w0 w1 => ⟨?_, (a6 w w0 w1).2⟩⟩
  obtain ⟨b1, b2, b3⟩ := (a6 w w0 w1).1
  unfold wrel
  rw [e15, e16, e17]
  exact ⟨b1, b2, b3⟩
theorem bn_e {S' : Nat → Int} {Y' : Nat → Int → Int} (h : bn S Y nc nle ni nm) (e45 : S' 45 = S 45) (e26 : Y' 26 = Y 26) (e27 : Y' 27 = Y 27) (e28 : Y' 28 = Y 28) : bn S' Y' nc nle ni nm := by
  obtain ⟨a1, a2⟩ := h
  refine ⟨e45.trans a1, fun k k0 k1 => ?_⟩
  rw [e26, e27, e28]
  exact a2 k k0 k1
theorem j8_e {Y' : Nat → Int → Int} (h : j8 R H hands nh Y) (e : Y' 14 = Y 14) : j8 R H hands nh Y' := by
  unfold j8
  rw [e]
  exact h
theorem JR_e {S' : Nat → Int} {Y' : Nat → Int → Int} (h : JR k ra rb nl nw R H R2 H2 T f f2 nc nle ni rf b1 b2 hands h2 sc dr n i lc wn ho next kept has nm lawF wrF pgs lad wad qs sg ln pl ss lg size lines longest letters cnt c ci nh S Y) (hS : ∀ j, ¬ ts j → S' j = S j) (hY : ∀ k, ¬ ty k → Y' k = Y k) : JR k ra rb nl nw R H R2 H2 T f f2 nc nle ni rf b1 b2 hands h2 sc dr n i lc wn ho next kept has nm lawF wrF pgs lad wad qs sg ln pl ss lg size lines longest letters cnt c ci nh (S') (Y') := by
  obtain ⟨r1, ⟨r2, r2'⟩, r3, ⟨r4, r4'⟩, ⟨r5, r5'⟩, ⟨r6, r6'⟩, ⟨r7, r71, r72, r73, r74, r75⟩, r8, r9⟩ := h
  have y18 := hY 18 (by unfold ty; omega)
  have y20 := hY 20 (by unfold ty; omega)
  have y30 := hY 30 (by unfold ty; omega)
  have y19 := hY 19 (by unfold ty; omega)
  have y1 := hY 1 (by unfold ty; omega)
  refine ⟨bw_e r1 (hS 23 (by unfold ts; omega)) (hS 27 (by unfold ts; omega)) (hY 13 (by unfold ty; omega)) (hY 15 (by unfold ty; omega)) (hY 16 (by unfold ty; omega)) (hY 17 (by unfold ty; omega)), ⟨bn_e r2 (hS 45 (by unfold ts; omega)) (hY 26 (by unfold ty; omega)) (hY 27 (by unfold ty; omega)) (hY 28 (by unfold ty; omega)), r2'⟩, by rw [y18]; exact r3, ⟨by rw [y20]; exact r4, (hS 33 (by unfold ts; omega)).trans r4'⟩, ⟨(hS 48 (by unfold ts; omega)).trans r5, by rw [y30]; exact r5'⟩, ⟨by rw [y19]; exact r6, r6'⟩, ⟨⟨(hS 31 (by unfold ts; omega)).trans r7.1, r7.2⟩, (hS 30 (by unfold ts; omega)).trans r71, (hS 13 (by unfold ts; omega)).trans r72, (hS 22 (by unfold ts; omega)).trans r73, (hS 2 (by unfold ts; omega)).trans r74, by rw [y1]; exact r75⟩, j8_e r8 (hY 14 (by unfold ty; omega)), fun l l0 l1 => ?_⟩
  obtain ⟨a, b⟩ := r9 l l0 l1
  exact ⟨mla_e (S' := S') hY a, b⟩
/-- one call more -/
theorem JR_k (h : JR k ra rb nl nw R H R2 H2 T f f2 nc nle ni rf b1 b2 hands h2 sc dr n i lc wn ho next kept has nm lawF wrF pgs lad wad qs sg ln pl ss lg size lines longest letters cnt c ci nh S Y) (h5 : k < 512) : JR (k + 1) ra rb nl nw R H R2 H2 T f f2 nc nle ni rf b1 b2 hands h2 sc dr n i lc wn ho next kept has nm lawF wrF pgs lad wad qs sg ln pl ss lg size lines longest letters cnt c ci nh S Y := by
  obtain ⟨r1, r2, r3, r4, ⟨r5, r5'⟩, ⟨r6, r61, r62, r63⟩, r7⟩ := h
  exact ⟨r1, r2, r3, r4, ⟨r5, fun e => ⟨(r5' e).1, by have := (r5' e).2; omega⟩⟩, ⟨fun j j0 j1 => ⟨(r6 j j0 j1).1, (r6 j j0 j1).2.1, by have := (r6 j j0 j1).2.2; omega⟩, by omega, by omega, by omega⟩, r7⟩
/-- behind the reference's call, which only tried out -/
theorem J_q {S' : Nat → Int} {Y' : Nat → Int → Int} {M2 : sk_M} (hX : JX g M1 A bs N scr ra rb nl nw R H R2 H2 T f f2 nc nle ni rf b1 b2 hands h2 sc dr n i lc wn ho next kept has nm lawF wrF pgs lad wad qs sg ln pl ss lg size lines longest letters cnt c ci) (ht : tm M1 A) (hR : JR k ra rb nl nw R H R2 H2 T f f2 nc nle ni rf b1 b2 hands h2 sc dr n i lc wn ho next kept has nm lawF wrF pgs lad wad qs sg ln pl ss lg size lines longest letters cnt c ci nh S Y) (h5 : k < 512) (hm : md M1 M2 (A + 53) S' Y') (hS : ∀ j, ¬ ts j → S' j = S j) (hY : ∀ k, ¬ ty k → Y' k = Y k) (h21 : j21 Y') : J g A bs N scr (k + 1) M2 := by
  have hA := hX.2.2.2.2.2.2.2.2.2.2.2.2.2.2.2.2.2
  have h1 : M1.1 ≤ M2.1 := by rw [hm.2.2.1]; exact Nat.le_refl _
  refine ⟨ra, rb, nl, nw, R, H, R2, H2, T, f, f2, nc, nle, ni, rf, b1, b2, hands, h2, sc, dr, n, i, lc, wn, ho, next, kept, has, nm, lawF, wrF, pgs, lad, wad, qs, sg, ln, pl, ss, lg, size, lines, longest, letters, cnt, c, ci, nh, (S'), (Y'), JX_e hX h1 (fun q q0 q1 => hm.2.2.2 q (by omega)), tm_e ht (fun q hq => hm.2.2.2 q (by omega)), md_s hm, JR_k (JR_e hR hS hY) h5, h21⟩
end JINV
