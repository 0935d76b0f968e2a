/-! ===== both sides at once: what acts leave as it was ===== -/
section JFR
variable {g : sk_G} {M M1 M2 : sk_M} {A bs N : Nat} {scr : Int → Int} {k : Int} {F : Nat → Prop} {ra rb nl nw : Nat} {R H R2 H2 T f f2 nc nle ni rf : Int → Int} {b1 b2 : Bool} {hands h2 sc dr n i lc wn ho next kept has nm : Int} {lawF wrF pgs : Int → Option Nat} {lad wad : Int → Nat} {qs : Int → List lq_C} {sg ln pl ss lg : Int → Int → Int} {size lines longest letters : Int → Int} {cnt : Int → hC} {c ci : hC} {nh : Int} {S : Nat → Int} {Y : Nat → Int → Int}
/-- the blocks of laws and writings -/
def jb (nl nw : Nat) (lc wn : Int) (lad wad : Int → Nat) (q : Nat) : Prop := (nl ≤ q ∧ q ≤ nl + 3) ∨ (nw ≤ q ∧ q ≤ nw + 5) ∨ (∃ l, 0 ≤ l ∧ l < lc ∧ lad l ≤ q ∧ q ≤ lad l + 3) ∨ ∃ w, 0 ≤ w ∧ w < wn ∧ wad w ≤ q ∧ q ≤ wad w + 5
theorem lwo_kinds {a : Nat} {len top : Int} {st lf kk : Int → Int} (h : lwo M a (a + 1) (a + 2) (a + 3) len top st lf kk) : (M.2 a).1 = 1 ∧ ∀ k, 1 ≤ k → k ≤ 3 → (M.2 (a + k)).1 = 20 := by
  refine ⟨by rw [h.1], fun k k1 k3 => ?_⟩
  have : k = 1 ∨ k = 2 ∨ k = 3 := by omega
  rcases this with rfl | rfl | rfl
  · rw [h.2.1]
  · rw [h.2.2.1]
  · rw [h.2.2.2]
theorem lx_kinds {a : Nat} {q : List lq_C} (h : lx M a q) : (M.2 a).1 = 1 ∧ ∀ k, 1 ≤ k → k ≤ 3 → (M.2 (a + k)).1 = 20 := by
  obtain ⟨_, _, _, _, _, h, -⟩ := h
  exact lwo_kinds h
theorem pgc_kinds {b : Nat} {c : hC} (h : pgc M b c) : (M.2 b).1 = 5 ∧ ∀ k, 1 ≤ k → k ≤ 2 → (M.2 (b + k)).1 = 20 := by
  refine ⟨by rw [h.1], fun k k1 k3 => ?_⟩
  have : k = 1 ∨ k = 2 := by omega
  rcases this with rfl | rfl
  · rw [h.2.1]
  · rw [h.2.2]
theorem jb_in (hX : JX g M A bs N scr ra rb nl nw R H R2 H2 T f f2 nc nle ni rf b1 b2 hands h2 sc dr n i lc wn ho next kept has nm lawF wrF pgs lad wad qs sg ln pl ss lg size lines longest letters cnt c ci) {q : Nat} (h : jb nl nw lc wn lad wad q) : ((A + 12 ≤ q ∧ q ≤ A + 21) ∨ A + 85 ≤ q) ∧ q < M.1 := by
  obtain ⟨h01, h02, h03, h04, h05, h06, h07, h08, h09, h10, h11, h12, h14⟩ := hX
  have l4 := h04.2
  have l5 := h05.2
  unfold lhA at l4
  rcases h with h | h | ⟨l, l0, l1, h⟩ | ⟨w, w0, w1, h⟩
  · omega
  · omega
  · obtain ⟨-, -, a3, a4, -⟩ := h06 l l0 l1
    unfold lhA at a3
    omega
  · have a := (h07.1 w w0 w1).2.2.1
    have b := (h07.2 w w0 w1).1
    omega
theorem jb_pg (hX : JX g M A bs N scr ra rb nl nw R H R2 H2 T f f2 nc nle ni rf b1 b2 hands h2 sc dr n i lc wn ho next kept has nm lawF wrF pgs lad wad qs sg ln pl ss lg size lines longest letters cnt c ci) {q : Nat} (h : jb nl nw lc wn lad wad q) {j : Int} {b : Nat} (j0 : 0 ≤ j) (j1 : j < 40) (jb : pgs j = some b) : q < b ∨ b + 2 < q := by
  obtain ⟨h01, h02, h03, h04, h05, h06, h07, h08, h09, h10, h11, h12, h14⟩ := hX
  have kb := pgc_kinds (h09.2.2.1 j b j0 j1 jb).2.2
  rcases h with h | h | ⟨l, l0, l1, h⟩ | ⟨w, w0, w1, h⟩
  · obtain ⟨⟨_, _, _, _, _, hl⟩, -⟩ := h04
    have ka := lwo_kinds hl
    have := blk_dis2 ka.1 kb.1 (fun e => by rw [e, kb.1] at ka; have := ka.1; omega) (by omega) (by omega) ka.2 kb.2
    omega
  · obtain ⟨⟨_, _, _, _, _, _, _, _, _, hl⟩, -⟩ := h05
    have ka := wr_kinds hl
    have := blk_dis2 ka.1 kb.1 (fun e => by rw [e, kb.1] at ka; have := ka.1; omega) (by omega) (by omega) ka.2 kb.2
    omega
  · have ka := lx_kinds (h06 l l0 l1).2.1
    have := blk_dis2 ka.1 kb.1 (fun e => by rw [e, kb.1] at ka; have := ka.1; omega) (by omega) (by omega) ka.2 kb.2
    omega
  · have ka := wr_kinds (h07.1 w w0 w1).2.1
    have := blk_dis2 ka.1 kb.1 (fun e => by rw [e, kb.1] at ka; have := ka.1; omega) (by omega) (by omega) ka.2 kb.2
    omega
theorem JX_d (hX : JX g M A bs N scr ra rb nl nw R H R2 H2 T f f2 nc nle ni rf b1 b2 hands h2 sc dr n i lc wn ho next kept has nm lawF wrF pgs lad wad qs sg ln pl ss lg size lines longest letters cnt c ci) (h1 : M.1 ≤ M1.1) (he : ∀ q, jb nl nw lc wn lad wad q → M1.2 q = M.2 q) : g4 M1 A nl ∧ g5 M1 A nw ∧ g6 M1 A nl lc lawF lad qs ∧ g7 M1 A nw wn wrF wad sg ln pl ss lg size lines longest letters := by
  obtain ⟨h01, h02, h03, h04, h05, h06, h07, -⟩ := hX
  exact ⟨g4_e h04 h1 (fun q q0 q1 => he q (Or.inl ⟨q0, q1⟩)), g5_e h05 h1 (fun q q0 q1 => he q (Or.inr (Or.inl ⟨q0, q1⟩))), g6_e h06 h1 (fun l q l0 l1 q0 q1 => he q (Or.inr (Or.inr (Or.inl ⟨l, l0, l1, q0, q1⟩)))), g7_e h07 h1 (fun w q w0 w1 q0 q1 => he q (Or.inr (Or.inr (Or.inr ⟨w, w0, w1, q0, q1⟩))))⟩
/-- from the reference's end -/
theorem JM_m {X : sk_X} {as : List sk_V} {v : Int} {S0 : Nat → Int} {Y0 : Nat → Int → Int} (hX : JX g M1 A bs N scr ra rb nl nw R H R2 H2 T f f2 nc nle ni rf b1 b2 hands h2 sc dr n i lc wn ho next kept has nm lawF wrF pgs lad wad qs sg ln pl ss lg size lines longest letters cnt c ci) (ht : tm M1 A) (hm : md M1 M1 (A + 53) S0 Y0)
    (hc : ∀ (d : Nat) (Q : sk_P), 125 ≤ d → (∀ (M2 : sk_M) (S : Nat → Int) (Y : Nat → Int → Int) (nh : Int), md M1 M2 (A + 53) S Y → JR k ra rb nl nw R H R2 H2 T f f2 nc nle ni rf b1 b2 hands h2 sc dr n i lc wn ho next kept has nm lawF wrF pgs lad wad qs sg ln pl ss lg size lines longest letters cnt c ci nh S Y → j21 Y → Q (some (.inl v)) M2) → sk_call g d 0 0 X (.inr (.inr (some (A + 53))) :: as) M1 Q) : JM g A bs N scr k X as v M1 := by
  have h14 := hX.2.2.2.2.2.2.2.2.2.2.2.2
  refine ⟨h14.2.2.2.1.1, by rw [hm.1], fun d Q hd hQ => hc d Q hd (fun M2 S Y nh hm' hR h21 => hQ M2 ?_)⟩
  have h1 : M1.1 ≤ M2.1 := by rw [hm'.2.2.1]; exact Nat.le_refl _
  exact ⟨ra, rb, nl, nw, R, H, R2, H2, T, f, f2, nc, nle, ni, rf, b1, b2, hands, h2, sc, dr, n, i, lc, wn, ho, next, kept, has, nm, lawF, wrF, pgs, lad, wad, qs, sg, ln, pl, ss, lg, size, lines, longest, letters, cnt, c, ci, nh, S, Y, JX_e hX h1 (fun q _ hn => hm'.2.2.2 q (by omega)), tm_e ht (fun q hq => hm'.2.2.2 q (by omega)), md_s hm', hR, h21⟩
/-- refused -/
theorem JX_rf {rf' : Int → Int} (hX : JX g M A bs N scr ra rb nl nw R H R2 H2 T f f2 nc nle ni rf b1 b2 hands h2 sc dr n i lc wn ho next kept has nm lawF wrF pgs lad wad qs sg ln pl ss lg size lines longest letters cnt c ci) : JX g (M.1, va_up M.2 (A + 49) (20, 5, sk_I rf')) A bs N scr ra rb nl nw R H R2 H2 T f f2 nc nle ni (rf') b1 b2 hands h2 sc dr n i lc wn ho next kept has nm lawF wrF pgs lad wad qs sg ln pl ss lg size lines longest letters cnt c ci := by
  have hd := JX_d (M1 := (M.1, va_up M.2 (A + 49) (20, 5, sk_I rf'))) hX (Nat.le_refl _) (fun q hq => va_up_ne _ _ (by have := jb_in hX hq; omega))
  obtain ⟨h01, h02, h03, h04, h05, h06, h07, h08, h09, h10, h11, h12, h14⟩ := hX
  have hA := h14.2.2.2.2.2
  have he : ∀ q, q ≠ A + 49 → va_up M.2 (A + 49) ((20, 5, sk_I rf') : sk_C) q = M.2 q := fun q hq => va_up_ne _ _ hq
  exact ⟨g1_e h01 (he _ (by omega)) (fun q q0 q1 => he _ (by omega)), g2_e h02 (fun q q0 q1 => he _ (by omega)), g3_e h03 (fun q q0 q1 => he _ (by omega)), hd.1, hd.2.1, hd.2.2.1, hd.2.2.2, g8_e h08 (fun q hq => he q (by omega)), hg_mv h09 (Nat.le_refl _) (he _ (by omega)) (he _ (by omega)) (fun j b q j0 j1 jb q0 q1 => he q (by have := pgb h09 j0 j1 jb; omega)), g10_e h10 (fun q q0 q1 => he q (by omega)), g11_e h11 (fun q q0 q1 => he q (by omega)), va_up_self _ _ _, g14_e h14 (Nat.le_refl _) (fun q hq => he q (by omega))⟩
theorem JR_rf {why : Int} (hR : JR k ra rb nl nw R H R2 H2 T f f2 nc nle ni rf b1 b2 hands h2 sc dr n i lc wn ho next kept has nm lawF wrF pgs lad wad qs sg ln pl ss lg size lines longest letters cnt c ci nh S Y) (h5 : k < 512) (w0 : 0 ≤ why) (w5 : why < 5) : JR (k + 1) ra rb nl nw R H R2 H2 T f f2 nc nle ni (sk_up rf why (rf why + 1)) b1 b2 hands h2 sc dr n i lc wn ho next kept has nm lawF wrF pgs lad wad qs sg ln pl ss lg size lines longest letters cnt c ci nh S (mo_rf Y why) := by
  obtain ⟨r1, r2, r3, r4, ⟨r5, r5'⟩, ⟨r6, r61, r62, r63⟩, r7, r8, r9⟩ := hR
  refine ⟨r1, r2, r3, r4, ⟨r5, fun e => ⟨(r5' e).1, by have := (r5' e).2; omega⟩⟩, ⟨fun j j0 j1 => ?_, by omega, by omega, by omega⟩, r7, r8, fun l l0 l1 => ⟨mla_yw (Y := Y) (Y' := mo_rf Y why) rfl rfl rfl rfl rfl rfl (r9 l l0 l1).1, (r9 l l0 l1).2⟩⟩
  have a := r6 j j0 j1
  show sk_up (Y 19) why (Y 19 why + 1) j = sk_up rf why (rf why + 1) j ∧ 0 ≤ sk_up rf why (rf why + 1) j ∧ sk_up rf why (rf why + 1) j ≤ k + 1
  by_cases e : j = why
  · subst e
    rw [sk_up_self, sk_up_self]
    omega
  · rw [sk_up_ne _ _ e, sk_up_ne _ _ e]
    omega
theorem JM_rf {X : sk_X} {as : List sk_V} {why : Int} (hX : JX g M A bs N scr ra rb nl nw R H R2 H2 T f f2 nc nle ni rf b1 b2 hands h2 sc dr n i lc wn ho next kept has nm lawF wrF pgs lad wad qs sg ln pl ss lg size lines longest letters cnt c ci) (ht : tm M A) (hm : md M M (A + 53) S Y) (hR : JR k ra rb nl nw R H R2 H2 T f f2 nc nle ni rf b1 b2 hands h2 sc dr n i lc wn ho next kept has nm lawF wrF pgs lad wad qs sg ln pl ss lg size lines longest letters cnt c ci nh S Y) (h5 : k < 512) (h21 : j21 Y) (w0 : 0 ≤ why) (w5 : why < 5)
    (hc : ∀ (d : Nat) (Q : sk_P) (M1 : sk_M), 125 ≤ d → md M1 M1 (A + 53) S Y → (∀ M2, md M1 M2 (A + 53) S (mo_rf Y why) → Q (some (.inl (-1))) M2) → sk_call g d 0 0 X (.inr (.inr (some (A + 53))) :: as) M1 Q) : JM g A bs N scr (k + 1) X as (-1) (rfu M A rf why) := by
  have hm1 : md (rfu M A rf why) (rfu M A rf why) (A + 53) S Y := md_e hm (fun q q0 q1 => va_up_ne _ _ (by omega))
  exact JM_m (S0 := S) (Y0 := Y) (JX_rf hX) (tm_e ht (fun q hq => va_up_ne _ _ (by omega))) hm1 (fun d Q hd hq => hc d Q _ hd hm1 (fun M2 hm2 => hq M2 _ _ nh hm2 (JR_rf hR h5 w0 w5) h21))
/-- an act: a page kept, the page changed -/
theorem JX_act {pgs' : Int → Option Nat} {cnt' : Int → hC} {next' kept' : Int} {c' : hC} {n' : Nat} (hX : JX g M A bs N scr ra rb nl nw R H R2 H2 T f f2 nc nle ni rf b1 b2 hands h2 sc dr n i lc wn ho next kept has nm lawF wrF pgs lad wad qs sg ln pl ss lg size lines longest letters cnt c ci) (hk : kf M M1 A pgs pgs' n' F) (hF : ∀ q, F q → A + 22 ≤ q ∧ q ≤ A + 24) (hh : hg M1 A pgs' cnt' next' kept' has) (hP : pg_at M1 (A + 22) (A + 23) (A + 24) c'.1 c'.2.1 c'.2.2.1 c'.2.2.2.1 c'.2.2.2.2.1 c'.2.2.2.2.2) : JX g M1 A bs N scr ra rb nl nw R H R2 H2 T f f2 nc nle ni rf b1 b2 hands h2 sc dr n i lc wn ho (next') (kept') has nm lawF wrF (pgs') lad wad qs sg ln pl ss lg size lines longest letters (cnt') (c') ci ∧ (tm M A → tm M1 A) ∧ ∀ S Y, md M M (A + 53) S Y → md M1 M1 (A + 53) S Y := by
  have hA := hX.2.2.2.2.2.2.2.2.2.2.2.2.2.2.2.2.2
  have h09 := hX.2.2.2.2.2.2.2.2.1
  have he : ∀ q, q < A + 85 → q ≠ A + 30 → q ≠ A + 31 → ¬ (A + 22 ≤ q ∧ q ≤ A + 24) → M1.2 q = M.2 q := fun q q0 q1 q2 q3 => kf_at hk h09 hA q0 q1 q2 (fun e => q3 (hF q e))
  have hd := JX_d (M1 := M1) hX hk.1.1 (fun q hq => hk.2.1 q (jb_in hX hq).2 (by have := jb_in hX hq; omega) (by have := jb_in hX hq; omega) (fun j b j0 j1 h => jb_pg hX hq j0 j1 h) (fun e => by have := jb_in hX hq; have := hF q e; omega))
  obtain ⟨h01, h02, h03, h04, h05, h06, h07, h08, -, h10, h11, h12, h14⟩ := hX
  refine ⟨⟨g1_e h01 (he _ (by omega) (by omega) (by omega) (by omega)) (fun q q0 q1 => he _ (by omega) (by omega) (by omega) (by omega)), g2_e h02 (fun q q0 q1 => he _ (by omega) (by omega) (by omega) (by omega)), g3_e h03 (fun q q0 q1 => he _ (by omega) (by omega) (by omega) (by omega)), hd.1, hd.2.1, hd.2.2.1, hd.2.2.2, ⟨hP, (he _ (by omega) (by omega) (by omega) (by omega)).trans h08.2.1, (he _ (by omega) (by omega) (by omega) (by omega)).trans h08.2.2⟩, hh, g10_e h10 (fun q q0 q1 => he q (by omega) (by omega) (by omega) (by omega)), g11_e h11 (fun q q0 q1 => he q (by omega) (by omega) (by omega) (by omega)), (he _ (by omega) (by omega) (by omega) (by omega)).trans h12, g14_e h14 hk.1.1 (fun q hq => he q (by omega) (by omega) (by omega) (by omega))⟩, fun ht => tm_e ht (fun q hq => he q (by omega) (by omega) (by omega) (by omega)), fun S Y hm => md_e hm (fun q q0 q1 => he q (by omega) (by omega) (by omega) (by omega))⟩
theorem JR_act {c' : hC} {cnt' : Int → hC} {next' kept' dr' : Int} {f' : Int → Int} {pgs' : Int → Option Nat} {S' : Nat → Int} {Y' : Nat → Int → Int} (hR : JR k ra rb nl nw R H R2 H2 T f f2 nc nle ni rf b1 b2 hands h2 sc dr n i lc wn ho next kept has nm lawF wrF pgs lad wad qs sg ln pl ss lg size lines longest letters cnt c ci nh S Y) (h5 : k < 512) (hS : ∀ j, ¬ ts j → j ≠ 33 → S' j = S j) (hY : ∀ k, ¬ ty k → k ≠ 18 → k ≠ 20 → Y' k = Y k) (hs : sn (R 0 * R 1) hands nh f' c' (Y' 18)) (hh : hrl (R 0 * R 1) hands nh f' c'.2.2.2.2.1 1 cnt' next' kept' (Y' 20)) (e33 : S' 33 = kept') (hlo : c'.2.2.2.2.1 ≤ 30 * (k + 1)) : JR (k + 1) ra rb nl nw R H R2 H2 T (f') f2 nc nle ni rf b1 b2 hands h2 sc (dr') n i lc wn ho (next') (kept') has nm lawF wrF (pgs') lad wad qs sg ln pl ss lg size lines longest letters (cnt') (c') ci nh (S') (Y') := by
  obtain ⟨r1, ⟨r2, r2'⟩, r3, ⟨r4, r4'⟩, ⟨r5, r5'⟩, ⟨r6, r61, r62, r63⟩, ⟨r7, r71, r72, r73, r74, r75⟩, r8, r9⟩ := hR
  have yy : ∀ j, ¬ ty j ∧ j ≠ 18 ∧ j ≠ 20 → Y' j = Y j := fun j h => hY j h.1 h.2.1 h.2.2
  have ss' : ∀ j, ¬ ts j ∧ j ≠ 33 → S' j = S j := fun j h => hS j h.1 h.2
  have y30 := yy 30 (by unfold ty; omega)
  have y19 := yy 19 (by unfold ty; omega)
  have y1 := yy 1 (by unfold ty; omega)
  refine ⟨bw_e r1 (ss' 23 (by unfold ts; omega)) (ss' 27 (by unfold ts; omega)) (yy 13 (by unfold ty; omega)) (yy 15 (by unfold ty; omega)) (yy 16 (by unfold ty; omega)) (yy 17 (by unfold ty; omega)), ⟨bn_e r2 (ss' 45 (by unfold ts; omega)) (yy 26 (by unfold ty; omega)) (yy 27 (by unfold ty; omega)) (yy 28 (by unfold ty; omega)), r2'⟩, hs, ⟨hh, e33⟩, ⟨(ss' 48 (by unfold ts; omega)).trans r5, fun e => ⟨by rw [y30]; exact (r5' e).1, by have := (r5' e).2; omega⟩⟩, ⟨fun j j0 j1 => by rw [y19]; have := r6 j j0 j1; omega, hlo, by omega, by omega⟩, ⟨⟨(ss' 31 (by unfold ts; omega)).trans r7.1, r7.2⟩, (ss' 30 (by unfold ts; omega)).trans r71, (ss' 13 (by unfold ts; omega)).trans r72, (ss' 22 (by unfold ts; omega)).trans r73, (ss' 2 (by unfold ts; omega)).trans r74, by rw [y1]; exact r75⟩, j8_e r8 (yy 14 (by unfold ty; omega)), fun l l0 l1 => ?_⟩
  obtain ⟨a, b⟩ := r9 l l0 l1
  exact ⟨mla_yw (yy 2 (by unfold ty; omega)) (yy 3 (by unfold ty; omega)) (yy 5 (by unfold ty; omega)) (yy 6 (by unfold ty; omega)) (yy 7 (by unfold ty; omega)) (yy 8 (by unfold ty; omega)) a, b⟩
end JFR
