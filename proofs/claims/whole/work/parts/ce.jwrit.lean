/-! ===== both sides at once: a writing taken ===== -/
section JWRIT
variable {g : sk_G} {d ck sk : Nat} {M M1 M2 M3 : sk_M} {Q : sk_P} {A bs N : Nat} {scr : Int → Int} {k : Int} {x1 x2 x3 x4 : Int} {ra rb nl nw : Nat} {R H R2 H2 T f f2 nc nle ni rf : Int → Int} {b1 b2 : Bool} {hands h2 sc dr n i lc wn ho next kept has nm : Int} {lawF wrF pgs : Int → Option Nat} {lad wad : Int → Nat} {qs : Int → List lq_C} {sg ln pl ss lg : Int → Int → Int} {size lines longest letters : Int → Int} {cnt : Int → hC} {c ci : hC} {nh : Int} {S : Nat → Int} {Y : Nat → Int → Int}
def fup {α : Type} (f : Int → α) (i : Int) (x : α) : Int → α := fun l => if l = i then x else f l
theorem fup_s {α : Type} (f : Int → α) (i : Int) (x : α) : fup f i x i = x := if_pos rfl
theorem fup_n {α : Type} (f : Int → α) {i l : Int} (x : α) (h : l ≠ i) : fup f i x l = f l := if_neg h
/-- the class behind a writing taken -/
theorem JX_wri {sg9 ln9 pl9 ss9 lg9 : Int → Int} {size9 lines9 longest9 letters9 : Int} {j : Int} (hX : JX g M A bs N scr ra rb nl nw R H R2 H2 T f f2 nc nle ni rf b1 b2 hands h2 sc dr n (j) lc wn ho next kept has nm lawF wrF pgs lad wad qs sg ln pl ss lg size lines longest letters cnt c ci) (ht : tm M A) (hw9 : wr_at M nw sg9 ln9 pl9 ss9 lg9 size9 lines9 longest9 letters9) (hg9 : wg sg9 ln9 pl9 ss9 lg9 size9 lines9 longest9) (l6 : wn < 6) (h1 : M2.1 = M.1 + 6) (he : ∀ q, q < M.1 → q ≠ A + 9 → q ≠ A + 11 → M2.2 q = M.2 q) (hS : sh_at M2 A nl M.1 lc (wn + 1) ho lawF (sk_upA wrF wn (some nw))) (hnew : wr_at M2 M.1 (fun _ => 0) (fun _ => 0) (fun _ => 0) (fun _ => 0) (fun _ => 0) 0 0 0 0) (fr3 : sk_fr1 M2 M3 (fun q => q = A + 1)) (hT3 : tp_at M3 (A + 1) (A + 2) T 0 j) : JX g M3 A bs N scr ra rb nl (M.1) R H R2 H2 T f f2 nc nle ni rf b1 b2 hands h2 sc dr (0) (j) lc (wn + 1) ho next kept has nm lawF (sk_upA wrF wn (some nw)) pgs lad (fup wad wn nw) qs (fup sg wn sg9) (fup ln wn ln9) (fup pl wn pl9) (fup ss wn ss9) (fup lg wn lg9) (fup size wn size9) (fup lines wn lines9) (fup longest wn longest9) (fup letters wn letters9) cnt c ci ∧ tm M3 A ∧ ∀ S Y, md M M (A + 53) S Y → md M3 M3 (A + 53) S Y := by
  have hA := hX.2.2.2.2.2.2.2.2.2.2.2.2.2.2.2.2.2
  obtain ⟨hsh0, c04, ⟨w0, w6⟩, ch⟩ := hX.2.2.1
  have h05 := hX.2.2.2.2.1
  have h07 := hX.2.2.2.2.2.2.1
  have f3 : ∀ q, q < M.1 → q ≠ A + 9 → q ≠ A + 11 → q ≠ A + 1 → M3.2 q = M.2 q := fun q z0 z1 z2 z3 => (fr3.2 q z3).trans (he q z0 z1 z2)
  obtain ⟨p1, p2, p3, ⟨p4, p5, p6, p7⟩, p8, p9, p10, p11, p12, p14, pt, pm⟩ := JX_p (M1 := M3) (P := fun q => q = A + 9 ∨ q = A + 11 ∨ q = A + 1) hX (by rw [fr3.1, h1]; omega) (fun q q0 hq => f3 q q0 (fun e => hq (Or.inl e)) (fun e => hq (Or.inr (Or.inl e))) (fun e => hq (Or.inr (Or.inr e)))) (fun q e => by omega)
  have g3' : g3 M3 A nl M.1 lc (wn + 1) ho lawF (sk_upA wrF wn (some nw)) := ⟨⟨(fr3.2 _ (by omega)).trans hS.1, (fr3.2 _ (by omega)).trans hS.2.1, (fr3.2 _ (by omega)).trans hS.2.2⟩, c04, ⟨by omega, by omega⟩, ch⟩
  have g5' : g5 M3 A M.1 := ⟨⟨_, _, _, _, _, _, _, _, _, wr_e hnew (fun q q0 q1 => fr3.2 q (by omega))⟩, Or.inr hA, by rw [fr3.1, h1]; omega⟩
  have nw1 : nw + 5 < M.1 := h05.2.2
  have nwA := h05.2.1
  have g7' : g7 M3 A M.1 (wn + 1) (sk_upA wrF wn (some nw)) (fup wad wn nw) (fup sg wn sg9) (fup ln wn ln9) (fup pl wn pl9) (fup ss wn ss9) (fup lg wn lg9) (fup size wn size9) (fup lines wn lines9) (fup longest wn longest9) (fup letters wn letters9) := by
    refine ⟨fun w q0 q1 => ?_, fun w q0 q1 => ?_⟩
    · by_cases e : w = wn
      · subst e
        simp only [fup_s]
        refine ⟨sk_upA_self _ _ _, wr_e hw9 (fun q z0 z1 => f3 q (by omega) (by omega) (by omega) (by omega)), nwA, ?_⟩
        obtain ⟨b1, b2, b3, b4, b5, b6⟩ := hg9
        exact ⟨b4.1, b4.2, b5.1, b5.2, by omega, b6.2, b1⟩
      · simp only [fup_n _ _ e]
        have := p7.1 w q0 (by omega)
        exact ⟨(sk_upA_ne _ _ e).trans this.1, this.2⟩
    · by_cases e : w = wn
      · subst e
        simp only [fup_s]
        exact ⟨by rw [fr3.1, h1]; omega, by omega⟩
      · simp only [fup_n _ _ e]
        have a := (h07.2 w q0 (by omega)).1
        exact ⟨by rw [fr3.1, h1]; omega, by omega⟩
  exact ⟨⟨p1 (fun q e => by omega), ⟨hT3, by omega, by omega, fun j j0 j1 => by omega⟩, g3', p4, g5', p6, g7', p8 (fun q e => by omega), p9 (fun q e => by omega), p10 (fun q e => by omega), p11 (fun q e => by omega), p12 (fun q e => by omega), p14⟩, pt (fun q e => by unfold tF; omega) ht, pm⟩
theorem JR_wri {sg9 ln9 pl9 ss9 lg9 : Int → Int} {size9 lines9 longest9 letters9 : Int} {ls : List (List Int)} {j i9 : Int} {nw' : Nat} {wrF' : Int → Option Nat} {wad' : Int → Nat} {S' : Nat → Int} {Y' : Nat → Int → Int} (hR : JR k ra rb nl nw R H R2 H2 T f f2 nc nle ni rf b1 b2 hands h2 sc dr n i lc wn ho next kept has nm lawF wrF pgs lad wad qs sg ln pl ss lg size lines longest letters cnt c ci nh S Y) (h5 : k < 512) (hn0 : 0 ≤ n) (l6 : wn < 6) (htk : tkw S Y ls i9 S' Y') (hg9 : wg sg9 ln9 pl9 ss9 lg9 size9 lines9 longest9) (hr9 : wrel Y' wn sg9 ln9 pl9 lg9 size9 lines9) : JR (k + 1) ra rb nl (nw') R H R2 H2 T f f2 nc nle ni rf b1 b2 hands h2 sc dr (0) (j) lc (wn + 1) ho next kept has nm lawF (wrF') pgs lad (wad') qs (fup sg wn sg9) (fup ln wn ln9) (fup pl wn pl9) (fup ss wn ss9) (fup lg wn lg9) (fup size wn size9) (fup lines wn lines9) (fup longest wn longest9) (fup letters wn letters9) cnt c ci nh (S') (Y') ∧ (j21 Y → j21 Y') := by
  obtain ⟨r1, ⟨r2, r2'⟩, r3, ⟨r4, r4'⟩, ⟨r5, r5'⟩, ⟨r6, r61, r62, r63⟩, ⟨r7, r71, r72, r73, r74, r75⟩, r8, r9⟩ := JR_k hR h5
  have tk' := tkw_keep htk
  have ts' := tkw_S htk
  obtain ⟨a1, a2, a3, a4, a5, a6⟩ := r1
  rw [a4] at tk' ts'
  have hS := fun j (h : j ≠ 2 ∧ j ≠ 3 ∧ j ≠ 4 ∧ j ≠ 5 ∧ j ≠ 27) => ts'.2.2 j h.1 h.2.1 h.2.2.1 h.2.2.2.1 h.2.2.2.2
  have hY := fun k (h : k ≠ 15 ∧ k ≠ 16 ∧ k ≠ 17) => tk'.1 k h.1 h.2.1 h.2.2
  refine ⟨⟨⟨by rw [hY 13 (by decide)]; exact a1, a2, (hS _ (by decide)).trans a3, ts'.1, ⟨by omega, by omega⟩, fun w w0 w1 => ?_⟩, ⟨bn_e r2 (hS _ (by decide)) (hY _ (by decide)) (hY _ (by decide)) (hY _ (by decide)), r2'⟩, by rw [hY 18 (by decide)]; exact r3, ⟨by rw [hY 20 (by decide)]; exact r4, (hS _ (by decide)).trans r4'⟩, ⟨(hS _ (by decide)).trans r5, by rw [hY 30 (by decide)]; exact r5'⟩, ⟨by rw [hY 19 (by decide)]; exact r6, r61, r62, r63⟩, ⟨⟨(hS _ (by decide)).trans r7.1, r7.2⟩, (hS _ (by decide)).trans r71, (hS _ (by decide)).trans r72, (hS _ (by decide)).trans r73, ts'.2.1, fun j hj => by rw [hY 1 (by decide)]; exact r75 j (by omega)⟩, j8_e r8 (hY _ (by decide)), fun l l0 l1 => ⟨mla_yw (hY _ (by decide)) (hY _ (by decide)) (hY _ (by decide)) (hY _ (by decide)) (hY _ (by decide)) (hY _ (by decide)) (r9 l l0 l1).1, (r9 l l0 l1).2⟩⟩, fun h => by unfold j21; rw [hY 21 (by decide)]; exact h⟩
  by_cases e : w = wn
  · subst e
    simp only [fup_s]
    exact ⟨hr9, hg9⟩
  · simp only [fup_n _ _ e]
    have q := a6 w w0 (by omega)
    exact ⟨wrel_keep tk'.2.1 tk'.2.2.1 tk'.2.2.2 (by omega) q.2.2.2.2.2.2.2 q.1, q.2⟩
theorem j_text2 (hd : 125 ≤ d) (hck : 90 ≤ ck) (hsk' : 8580 ≤ sk) (hJ : J g A bs N scr k M) (h5 : k < 512) (hQ : ∀ v M1, JM g A bs N scr (k + 1) xX12_text [.inl 2] v M1 → Q (some (.inl v)) M1) : sk_call g d ck sk xX11_text [.inr (.inr (some A)), .inl 2] M Q := by
  obtain ⟨ra, rb, nl, nw, R, H, R2, H2, T, f, f2, nc, nle, ni, rf, b1, b2, hands, h2, sc, dr, n, i, lc, wn, ho, next, kept, has, nm, lawF, wrF, pgs, lad, wad, qs, sg, ln, pl, ss, lg, size, lines, longest, letters, cnt, c, ci, nh, S, Y, hX, ht, hm, hR, h21⟩ := hJ
  obtain ⟨⟨B0, B4⟩, Bru, ⟨Bl0, Bl1⟩, ⟨Bc0, Bc1⟩, ⟨E23, E27, E22⟩, E0, ⟨W0, W6⟩⟩ := jd_bounds hX hR
  obtain ⟨⟨hx, hx2⟩, G2, ⟨hsh, ⟨L0, L4⟩, W06, L9⟩, G4, G5, G6, ⟨hws, hwa⟩, ⟨hP, hL⟩, hh, ⟨hI, hIL⟩, hNo, hr, ⟨hst, hsb, hsk, hscr, hout, hA⟩⟩ := id hX
  obtain ⟨r1, ⟨r2, r2'⟩, r3, ⟨r4, r4'⟩, ⟨r5, r5'⟩, ⟨r6, r61, r62, r63⟩, ⟨⟨r7, r7a, r7b⟩, r71, r72, r73, r74, r75⟩, r8, r9⟩ := id hR
  obtain ⟨⟨Y0, Y1', Y2⟩, -⟩ := id r1
  obtain ⟨q1, q2, ⟨q3, q4, q5⟩, q6, q7, q8, hk⟩ := id r3
  have rX := jd_rx hX hR
  have hwl := jd_wl hR
  have hH := jd_xH hR
  obtain ⟨hTp, hTo⟩ := id G2
  obtain ⟨⟨len, top, st, lf, kk, hnl⟩, -⟩ := id G4
  obtain ⟨⟨sg9, ln9, pl9, ss9, lg9, size9, lines9, longest9, letters9, hnw⟩, -⟩ := id G5
  obtain ⟨hTY, f0, f1, f2'⟩ := ft_eq (R2 := R2) (H2 := H2) hTo r74 r75
  have a0 : i32 2 := by unfold i32; omega
  have n240 := hTo.2.1
  have n0 := hTo.1
  have hpos := rw_in hTo 4 0 0 (by omega) hTo.1
  have hok := rw_ok hTo 4 0 0 (by omega) hTo.1 (by omega) (by omega)
  have erw : rw' (Y 1) (S 2) 4 0 0 = rw' T n 4 0 0 := by rw [r74, ta_rw r75]
  obtain ⟨r, hr9⟩ : ∃ r, r = rw' T n 4 0 0 := ⟨_, rfl⟩
  rw [← hr9] at f2' hpos hok erw
  have hno : ∀ (M1 : sk_M) (j : Int), JX g M1 A bs N scr ra rb nl nw R H R2 H2 T f f2 nc nle ni rf b1 b2 hands h2 sc dr n (j) lc wn ho next kept has nm lawF wrF pgs lad wad qs sg ln pl ss lg size lines longest letters cnt c ci → tm M1 A → md M1 M1 (A + 53) S Y → ¬ (wn < 6 ∧ ft S Y 2 = -1) → JM g A bs N scr (k + 1) xX12_text [.inl 2] (-1) M1 := fun M1 j q1 q2 q3 q4 => jt_N q1 q2 q3 hR h5 h21 hTY a0 ⟨L0, L4⟩ ⟨W0, W6⟩ (fun z => by omega) (fun z => by omega) (fun z => q4 z.2)
  refine x_text2 (RN := fun M1 => JM g A bs N scr (k + 1) xX12_text [.inl 2] (-1) M1) (RY := fun M1 => (r.1 = true ∧ 0 < wr_let (wf r.2.2)) ∧ ∃ j, JX g M1 A bs N scr ra rb nl nw R H R2 H2 T f f2 nc nle ni rf b1 b2 hands h2 sc dr n (j) lc wn ho next kept has nm lawF wrF pgs lad wad qs sg ln pl ss lg size lines longest letters cnt c ci ∧ tm M1 A ∧ md M1 M1 (A + 53) S Y ∧ wr_at M1 nw (lp_app sg9 0 (wf r.2.2)) (lp_app ln9 0 (wf_ln 0 r.2.2)) (lp_app pl9 0 (wf_pl r.2.2)) (lp_app ss9 0 (wf_st 0 r.2.2)) (lp_app lg9 0 (wf_le r.2.2)) (wf r.2.2).length r.2.2.length (wf_lo 0 r.2.2) (wr_let (wf r.2.2))) (Nat.le_trans (by decide) hd) (Nat.le_trans (by decide) hck) (Nat.le_trans (by decide) hsk') hx.1 (fun Q' hN' hY' => c_faultOf (by omega) hx hsh hTp hTo hx2 hnl hnw hsb a0 (fun _ _ z => (z rfl).elim) (fun z => by omega) (fun z => by omega) (fun z => by omega) (fun z => by omega) (fun _ e e2 M1 j fr t rr l w => hY' M1 ?_) (fun _ e M1 j sg' ln' pl' ss' lg' size' lines' longest' letters' fr t rr l w => hN' _ M1 ?_ ?_ ?_ ?_)) (fun M' h => hQ _ M' h) (fun M' h => ?_)
  · rw [← hr9] at e e2 w
    obtain ⟨hX1, q1, m1⟩ := JX_f hX fr t rr l w
    exact ⟨⟨e, e2⟩, j, hX1, q1 ht, m1 S Y hm, w⟩
  · rw [← hr9]; omega
  · rw [← hr9]; omega
  · rw [← hr9]; omega
  · rw [← hr9] at e
    obtain ⟨hX1, q1', m1⟩ := JX_f hX fr t rr l w
    exact hno M1 j hX1 (q1' ht) (m1 S Y hm) (fun z => by have z2 := z.2; rw [f2', if_neg e] at z2; omega)
  · obtain ⟨⟨e, e2⟩, j, hX1, ht1, hm1, hwn⟩ := h
    obtain ⟨o1, o2, o3, o4⟩ := hok e
    have h1 := hX1.1.1.1
    have g3' := hX1.2.2.1
    have g5' := hX1.2.2.2.2.1
    have hA1 := hX1.2.2.2.2.2.2.2.2.2.2.2.2.2.2.2.2.2
    have kk9 := wr_kinds hwn
    have hwg := wg_new (sg := sg9) (ln := ln9) (pl := pl9) (ss := ss9) (lg := lg9) (ls := r.2.2) o1 o2 (by omega) o4
    refine ⟨⟨h1, by rw [g3'.1.1]⟩, fun Q' hq' => c_takeWriting (by omega) (by omega) (by omega) g3'.1 W0 W6 (by omega) kk9.1 (by have := g5'.2.2; omega) (fun z => hq' _ M' ?_) (fun z M2 e1 ee2 e3 e4 => hq' _ M2 ?_)⟩
    · refine ⟨ra, rb, sc, dr, T, n, j, by omega, by omega, h1, hX1.2.1.1, n0, n240, fun _ => hQ _ M' (hno M' j hX1 ht1 hm1 (fun y => by omega)), fun y => by omega⟩
    · have hT2 : tp_at M2 (A + 1) (A + 2) T n j := ⟨(ee2 _ (by omega) (by omega) (by omega)).trans hX1.2.1.1.1, (ee2 _ (by omega) (by omega) (by omega)).trans hX1.2.1.1.2⟩
      refine ⟨ra, rb, sc, dr, T, n, j, by omega, by omega, (ee2 _ (by omega) (by omega) (by omega)).trans h1, hT2, n0, n240, fun y => by omega, fun _ M3 fr3 hT3 => hQ _ M3 ?_⟩
      obtain ⟨hX3, ht3, hm3⟩ := JX_wri hX1 ht1 hwn hwg z e1 ee2 e3 e4 fr3 hT3
      refine JM_m hX3 ht3 (hm3 S Y hm1) (fun d Q hd hq => m_text (Nat.le_trans (by decide) hd) (hm3 S Y hm1) hTY (by rw [r72]; exact L0) (by rw [r72]; exact L4) (by rw [E27]; exact W0) (by rw [E27]; exact W6) a0 (fun _ _ y => (y ⟨rfl, by rw [E27]; exact z, by rw [f2', if_pos ⟨e, e2⟩]⟩).elim) (fun y => by omega) (fun y => by omega) (fun _ y1 y2 y3 M4 S' Y' htk hm4 => ?_))
      rw [erw] at htk
      have hrel := tkw_rel sg9 ln9 pl9 lg9 htk o1
      rw [E27] at hrel
      obtain ⟨jr, j9⟩ := JR_wri (nw' := M'.1) (wrF' := sk_upA wrF wn (some nw)) (wad' := fup wad wn nw) (letters9 := wr_let (wf r.2.2)) (j := j) hR h5 n0 z htk hwg hrel
      rw [E27]
      exact hq M4 S' Y' nh hm4 jr (j9 h21)
theorem j_text (hd : 125 ≤ d) (hck : 90 ≤ ck) (hsk' : 8580 ≤ sk) (hJ : J g A bs N scr k M) (h5 : k < 512) (a1 : i32 x1) (hQ : ∀ v M1, JM g A bs N scr (k + 1) xX12_text [.inl x1] v M1 → Q (some (.inl v)) M1) : sk_call g d ck sk xX11_text [.inr (.inr (some A)), .inl x1] M Q := by
  by_cases e0 : x1 = 0
  · subst e0; exact j_text0 hd hJ h5 hQ
  · by_cases e1 : x1 = 1
    · subst e1; exact j_text1 hd hck hsk' hJ h5 hQ
    · by_cases e2 : x1 = 2
      · subst e2; exact j_text2 hd hck hsk' hJ h5 hQ
      · exact j_textB hd hJ h5 a1 e0 e1 e2 hQ
end JWRIT
