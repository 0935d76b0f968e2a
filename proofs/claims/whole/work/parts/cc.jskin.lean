/-! ===== both sides at once: a skin taken ===== -/
section JSKIN
variable {g : sk_G} {d ck sk : Nat} {M M1 M2 M3 : sk_M} {Q : sk_P} {A bs N : Nat} {scr : Int → Int} {k : Int} {x1 x2 x3 x4 : Int} {ra rb nl nw : Nat} {R H R2 H2 T f f2 nc nle ni rf : Int → Int} {b1 b2 : Bool} {hands h2 sc dr n i lc wn ho next kept has nm : Int} {lawF wrF pgs : Int → Option Nat} {lad wad : Int → Nat} {qs : Int → List lq_C} {sg ln pl ss lg : Int → Int → Int} {size lines longest letters : Int → Int} {cnt : Int → hC} {c ci : hC} {nh : Int} {S : Nat → Int} {Y : Nat → Int → Int}
theorem JX_skin {R' H' hs2 : Int → Int} {h' : Int} {b' : Bool} {j : Int} (hX : JX g M A bs N scr ra rb nl nw R H (R') (H') T f f2 nc nle ni rf b1 (b') hands (h') sc dr n (j) lc wn ho next kept has nm lawF wrF pgs lad wad qs sg ln pl ss lg size lines longest letters cnt c ci) (ht : tm M A) (fr : sk_fr1 M M2 (tsF A)) (hx2 : xc M2 A rb ra R' H' h' (sk_b b') sc dr) (hr2 : ru_at M2 ra R H hands (sk_b b1)) (hP2 : pg_at M2 (A + 22) (A + 23) (A + 24) c.1 hs2 (R' 3) 0 0 0) (hh2 : hg M2 A pgs cnt next 0 0) (hN2 : no_at M2 (A + 37) nc nle ni 0) (fr3 : sk_fr1 M2 M3 (fun q => q = A + 1)) (hT3 : tp_at M3 (A + 1) (A + 2) T 0 j) : JX g M3 A bs N scr (rb) (ra) nl nw (R') (H') (R) (H) T f f2 nc nle ni rf (b') (b1) (h') (hands) sc dr (0) (j) lc wn ho next (0) (0) (0) lawF wrF pgs lad wad qs sg ln pl ss lg size lines longest letters cnt ((c.1, hs2, R' 3, 0, 0, 0)) ci ∧ tm M3 A ∧ ∀ S Y, md M M (A + 53) S Y → md M3 M3 (A + 53) S Y := by
  have h09 := hX.2.2.2.2.2.2.2.2.1
  have hA := hX.2.2.2.2.2.2.2.2.2.2.2.2.2.2.2.2.2
  have hL := hX.2.2.2.2.2.2.2.1.2
  have hT := hX.2.1
  obtain ⟨p1, p2, p3, ⟨p4, p5, p6, p7⟩, p8, p9, p10, p11, p12, p14, pt, pm⟩ := JX_p (M1 := M3) (P := fun q => tsF A q ∨ q = A + 1) hX (by rw [fr3.1, fr.1]; exact Nat.le_refl _) (fun q _ hq => (fr3.2 q (fun e => hq (Or.inr e))).trans (fr.2 q (fun e => hq (Or.inl e)))) (fun q e => by unfold tsF at e; omega)
  have f3 : ∀ q, q ≠ A + 1 → M3.2 q = M2.2 q := fun q hq => fr3.2 q hq
  obtain ⟨c0, ⟨c1, c2, c3⟩, c4, c5⟩ := hx2
  refine ⟨⟨⟨⟨(f3 _ (by omega)).trans c0, ⟨(f3 _ (by omega)).trans c1, (f3 _ (by omega)).trans c2, (f3 _ (by omega)).trans c3⟩, c4, c5⟩, (f3 _ (by omega)).trans hr2.1, (f3 _ (by omega)).trans hr2.2.1, (f3 _ (by omega)).trans hr2.2.2⟩, ⟨hT3, by omega, by omega, fun j j0 j1 => by omega⟩, p3 (fun q e => by unfold tsF at e; omega), p4, p5, p6, p7, ⟨⟨(f3 _ (by omega)).trans hP2.1, (f3 _ (by omega)).trans hP2.2.1, (f3 _ (by omega)).trans hP2.2.2⟩, ?_⟩, hg_mv hh2 (by rw [fr3.1]; exact Nat.le_refl _) (f3 _ (by omega)) (f3 _ (by omega)) (fun j b q j0 j1 jb q0 q1 => f3 q (by have := (hh2.2.2.1 j b j0 j1 jb).1; omega)), p10 (fun q e => by unfold tsF at e; omega), g11_e hN2 (fun q q0 q1 => f3 q (by omega)), p12 (fun q e => by unfold tsF at e; omega), p14⟩, pt (fun q e => by unfold tsF at e; unfold tF; omega) ht, pm⟩
  exact ⟨(f3 _ (by omega)).trans ((fr.2 _ (by unfold tsF; omega)).trans hL.1), (f3 _ (by omega)).trans ((fr.2 _ (by unfold tsF; omega)).trans hL.2)⟩
theorem JR_skin {rc rr : sr_S} {hs2 : Int → Int} {j : Int} {S' : Nat → Int} {Y' : Nat → Int → Int} (hR : JR k ra rb nl nw R H R2 H2 T f f2 nc nle ni rf b1 b2 hands h2 sc dr n i lc wn ho next kept has nm lawF wrF pgs lad wad qs sg ln pl ss lg size lines longest letters cnt c ci nh S Y) (h5 : k < 512) (hn0 : 0 ≤ n) (hb : srB rc) (hp : 0 < rc.1) (he : ra' rc rr) (htk : tk0 S Y rr S' Y') (hz : ∀ j, 0 ≤ j → j < 40 → hs2 j = 0) : JR (k + 1) (rb) (ra) nl nw (rc.2.2.1) (rc.2.2.2) (R) (H) T f f2 nc nle ni rf (rc.2.1) (b1) (rc.1) (hands) sc dr (0) (j) lc wn ho next (0) (0) (0) lawF wrF pgs lad wad qs sg ln pl ss lg size lines longest letters cnt ((c.1, hs2, rc.2.2.1 3, 0, 0, 0)) ci (rc.1) (S') (Y') := by
  obtain ⟨r1, ⟨r2, r2'⟩, r3, ⟨r4, r4'⟩, ⟨r5, r5'⟩, ⟨r6, r61, r62, r63⟩, ⟨r7, r71, r72, r73, r74, r75⟩, r8, r9⟩ := hR
  obtain ⟨⟨t2, t22, t23, t33, t45, t48⟩, tS, t13, t14, t18, tY⟩ := htk
  obtain ⟨e1, e2, e3, e4⟩ := he
  have bR := srB_R hb
  have bH := srB_H hb
  have b4 := hb.2.1
  have hru : ru_ok (rc.2.2.1 0) (rc.2.2.1 1) := Or.inr ⟨bR.1.1, bR.1.2, bR.2.1.1, bR.2.1.2⟩
  have cz := ru_cells hru
  have hS := fun j (h : j ≠ 2 ∧ j ≠ 3 ∧ j ≠ 4 ∧ j ≠ 5 ∧ j ≠ 19 ∧ j ≠ 22 ∧ j ≠ 23 ∧ j ≠ 33 ∧ j ≠ 45 ∧ j ≠ 48) => tS j h.1 h.2.1 h.2.2.1 h.2.2.2.1 h.2.2.2.2.1 h.2.2.2.2.2.1 h.2.2.2.2.2.2.1 h.2.2.2.2.2.2.2.1 h.2.2.2.2.2.2.2.2.1 h.2.2.2.2.2.2.2.2.2
  have hY := fun k (h : k ≠ 11 ∧ k ≠ 12 ∧ k ≠ 13 ∧ k ≠ 14 ∧ k ≠ 18) => tY k h.1 h.2.1 h.2.2.1 h.2.2.2.1 h.2.2.2.2
  have yR : ∀ j, 0 ≤ j → j < 4 → Y' 13 j = rc.2.2.1 j := fun j j0 j1 => by rw [t13 j j0 j1, e3 j j0 j1]
  have yH : ∀ j, 0 ≤ j → j < 2 * rc.1 → Y' 14 j = rc.2.2.2 j := fun j j0 j1 => by rw [t14 j j0 (by omega), e4 j j0 j1]
  have y0 : ∀ j, 0 ≤ j → j < 943 → j ≠ 760 → Y' 18 j = 0 := fun j j0 j1 h => by rw [t18 j j0 j1, if_neg h]
  have y760 : Y' 18 760 = rc.2.2.1 3 := by rw [t18 760 (by omega) (by omega), if_pos rfl, e3 3 (by omega) (by omega)]
  refine ⟨?_, ⟨⟨t45, fun k k0 k1 => by omega⟩, by omega, by omega, fun k k0 k1 => by omega⟩, ⟨⟨fun cc c0 c1 => ⟨?_, ?_, ?_, fun i i0 i1 => ?_⟩, fun cc c0 c1 => ?_⟩, fun a b a0 a1 b0 b2 => ?_, ⟨y760, y0 761 (by omega) (by omega) (by omega), y0 762 (by omega) (by omega) (by omega)⟩, ⟨⟨fun cc c0 c1 => by rw [y0 cc c0 (by omega) (by omega)]; omega, fun j j0 j1 => by rw [y0 j (by omega) (by omega) (by omega)]; omega⟩, fun i i0 i1 => ?_, by rw [y0 761 (by omega) (by omega) (by omega)]; omega, by rw [y0 761 (by omega) (by omega) (by omega)]; omega, by rw [y0 762 (by omega) (by omega) (by omega)]; omega, by rw [y0 762 (by omega) (by omega) (by omega)]; omega⟩, ⟨by simp only []; omega, by simp only []; omega⟩, by simp, ?_⟩, ⟨hrl_0, t33⟩, ⟨t48, fun e => by omega⟩, ⟨by rw [hY 19 (by decide)]; exact fun j j0 j1 => by have := r6 j j0 j1; omega, by simp only []; omega, by omega, by omega⟩, ⟨⟨(hS _ (by decide)).trans r7.1, r7.2⟩, (hS _ (by decide)).trans r71, (hS _ (by decide)).trans r72, t22.trans e1.symm, t2, fun j hj => ?_⟩, ⟨fun e => by omega, fun _ => ⟨bR.1.1, bR.2.2.1.1⟩, fun j j0 j1 => ⟨yH j j0 j1, bH.1 j j0 j1⟩, bH.2, ⟨by omega, by omega, b4.2⟩, fun j j0 j1 => by rw [yH j j0 j1]; exact bH.1 j j0 j1⟩, fun l l0 l1 => ⟨mla_yw (hY 2 (by decide)) (hY 3 (by decide)) (hY 5 (by decide)) (hY 6 (by decide)) (hY 7 (by decide)) (hY 8 (by decide)) (r9 l l0 l1).1, (r9 l l0 l1).2⟩⟩
  · obtain ⟨a1, a2, a3, a4, a5, a6⟩ := r1
    refine ⟨⟨yR 0 (by omega) (by omega), yR 1 (by omega) (by omega), yR 2 (by omega) (by omega)⟩, hru, by rw [t23, e3 0 (by omega) (by omega), e3 1 (by omega) (by omega)], (hS _ (by decide)).trans a4, a5, fun w w0 w1 => ⟨?_, (a6 w w0 w1).2⟩⟩
    unfold wrel
    rw [hY 15 (by decide), hY 16 (by decide), hY 17 (by decide)]
    exact (a6 w w0 w1).1
  · show Y' 18 cc = hs2 cc
    rw [y0 cc c0 (by omega) (by omega), hz cc c0 c1]
  · show 0 ≤ hs2 cc
    rw [hz cc c0 c1]; exact Int.le_refl _
  · show hs2 cc ≤ 6
    rw [hz cc c0 c1]; omega
  · have : i < hs2 cc := i1
    rw [hz cc c0 c1] at this
    omega
  · exact hz cc (by have := cz.1; omega) c1
  · have : a < 0 := a1
    omega
  · rw [y0 _ (by omega) (by omega) (by omega), y0 _ (by omega) (by omega) (by omega), y0 _ (by omega) (by omega) (by omega)]
    omega
  · have := r3.2.2.2.2.2.2
    exact ⟨this.1, fun cc c0 c1 => by show 0 ≤ hs2 cc ∧ hs2 cc ≤ 6; rw [hz cc c0 c1]; omega⟩
  · rw [hY 1 (by decide)]
    exact r75 j (by omega)
theorem j_text0 (hd : 125 ≤ d) (hJ : J g A bs N scr k M) (h5 : k < 512) (hQ : ∀ v M1, JM g A bs N scr (k + 1) xX12_text [.inl 0] v M1 → Q (some (.inl v)) M1) : sk_call g d ck sk xX11_text [.inr (.inr (some A)), .inl 0] M Q := by
  obtain ⟨ra, rb, nl, nw, R, H, R2, H2, T, f, f2, nc, nle, ni, rf, b1, b2, hands, h2, sc, dr, n, i, lc, wn, ho, next, kept, has, nm, lawF, wrF, pgs, lad, wad, qs, sg, ln, pl, ss, lg, size, lines, longest, letters, cnt, c, ci, nh, S, Y, hX, ht, hm, hR, h21⟩ := hJ
  obtain ⟨⟨B0, B4⟩, Bru, ⟨Bl0, Bl1⟩, ⟨Bc0, Bc1⟩, ⟨E23, E27, E22⟩, E0, ⟨W0, W6⟩⟩ := jd_bounds hX hR
  obtain ⟨⟨hx, hx2⟩, G2, ⟨hsh, ⟨L0, L4⟩, W06, L9⟩, G4, G5, G6, ⟨hws, hwa⟩, ⟨hP, hL⟩, hh, ⟨hI, hIL⟩, hNo, hr, ⟨hst, hsb, hsk, hscr, hout, hA⟩⟩ := id hX
  obtain ⟨r1, ⟨r2, r2'⟩, r3, ⟨r4, r4'⟩, ⟨r5, r5'⟩, ⟨r6, r61, r62, r63⟩, ⟨⟨r7, r7a, r7b⟩, r71, r72, r73, r74, r75⟩, r8, r9⟩ := id hR
  obtain ⟨⟨Y0, Y1', Y2⟩, -⟩ := id r1
  obtain ⟨q1, q2, ⟨q3, q4, q5⟩, q6, q7, q8, hk⟩ := id r3
  have rX := jd_rx hX hR
  have hwl := jd_wl hR
  have hH := jd_xH hR
  obtain ⟨hTp, hTo⟩ := id G2
  obtain ⟨⟨len, top, st, lf, kk, hnl⟩, -⟩ := id G4
  obtain ⟨⟨sg9, ln9, pl9, ss9, lg9, size9, lines9, longest9, letters9, hnw⟩, -⟩ := id G5
  obtain ⟨hTY, f0, f1, f2'⟩ := ft_eq (R2 := R2) (H2 := H2) hTo r74 r75
  have a0 : i32 0 := by unfold i32; omega
  have hbnd := sr_bd (T := T) (n := n) 300 0 (rs0_bd R2 H2)
  have hpos := sr_pos hTo 300 0 (rs0 R2 H2) (by omega) hTo.1 (by simp [rs0]) (by simp [rs0])
  have hbo := sr_both (R2 := R2) (H2 := H2) (R2' := Y 11) (H2' := Y 12) r75
  have n240 := hTo.2.1
  have n0 := hTo.1
  obtain ⟨r, hr9⟩ : ∃ r, r = sr T n 300 0 (rs0 R2 H2) := ⟨_, rfl⟩
  rw [← hr9] at f0 hbnd hpos hbo
  refine x_text0 (RN := fun M1 => JM g A bs N scr (k + 1) xX12_text [.inl 0] (-1) M1) (RY := fun M1 => r.1 = true ∧ ∃ j, JX g M1 A bs N scr ra rb nl nw R H (r.2.2.2.2.1) (r.2.2.2.2.2) T f f2 nc nle ni rf b1 (r.2.2.2.1) hands (r.2.2.1) sc dr n (j) lc wn ho next kept has nm lawF wrF pgs lad wad qs sg ln pl ss lg size lines longest letters cnt c ci ∧ tm M1 A ∧ md M1 M1 (A + 53) S Y) (Nat.le_trans (by decide) hd) hx.1 (fun Q' hN' hY' => c_faultOf (by omega) hx hsh hTp hTo hx2 hnl hnw hsb a0 (fun z => (z rfl).elim) (fun _ e M1 j fr t rr l w => hY' M1 ?_) (fun _ e M1 j R' H' h' b' fr t rr l w => hN' _ M1 ?_ ?_ ?_ ?_) (fun z => by omega) (fun z => by omega) (fun z => by omega) (fun z => by omega)) (fun M' h => hQ _ M' h) (fun M' h => ?_)
  · rw [← hr9] at e rr
    obtain ⟨hX1, q1, m1⟩ := JX_f hX fr t rr l w
    exact ⟨e, j, hX1, q1 ht, m1 S Y hm⟩
  · rw [← hr9]; have := hpos.1; omega
  · rw [← hr9]; have := hpos.1; omega
  · rw [← hr9]; have := hpos.1; omega
  · rw [← hr9] at e
    obtain ⟨hX1, q1', m1⟩ := JX_f hX fr t rr l w
    exact jt_N hX1 (q1' ht) (m1 S Y hm) hR h5 h21 hTY a0 ⟨L0, L4⟩ ⟨W0, W6⟩ (fun z => by have z2 := z.2; rw [f0, if_neg (by rw [e]; decide)] at z2; have := hpos.1; omega) (fun z => by omega) (fun z => by omega)
  · obtain ⟨e, j, hX1, ht1, hm1⟩ := h
    have h1 := hX1.1.1.1
    have hp1 := hpos.2.2.2 e
    have bR := srB_R hbnd
    have bv := ru_cells (Or.inr ⟨bR.1.1, bR.1.2, bR.2.1.1, bR.2.1.2⟩ : ru_ok (r.2.2.2.2.1 0) (r.2.2.2.2.1 1))
    have bv2 : r.2.2.2.2.1 0 * r.2.2.2.2.1 1 ≠ 0 := fun y => by have := bv.2.2.mp y; have := bR.1.1; omega
    refine ⟨by rw [h1], fun Q' hq' => c_takeSkin (by omega) hX1.1.1 hX1.1.2 ⟨Or.inr ⟨bR.1.1, bR.1.2, bR.2.1.1, bR.2.1.2⟩, ⟨by omega, by omega⟩, hbnd.2.1, bR.2.2.2.1, by omega⟩ hX1.2.2.2.2.2.2.2.1.1 hX1.2.2.2.2.2.2.2.2.1 hX1.2.2.2.2.2.2.2.2.2.2.1 (fun M2 hs2 fr2 hxc hru2 hz hP2 hh2 hN2 => hq' _ M2 ?_)⟩
    have hT2 : tp_at M2 (A + 1) (A + 2) T n j := ⟨(fr2.2 _ (by unfold tsF; omega)).trans hX1.2.1.1.1, (fr2.2 _ (by unfold tsF; omega)).trans hX1.2.1.1.2⟩
    refine ⟨_, _, _, _, T, n, j, by omega, by omega, hxc.1, hT2, n0, n240, fun y => by omega, fun _ M3 fr3 hT3 => hQ _ M3 ?_⟩
    obtain ⟨hX3, ht3, hm3⟩ := JX_skin hX1 ht1 fr2 hxc hru2 hP2 hh2 hN2 fr3 hT3
    refine JM_m hX3 ht3 (hm3 S Y hm1) (fun d Q hd hq => m_text (Nat.le_trans (by decide) hd) (hm3 S Y hm1) hTY (by rw [r72]; exact L0) (by rw [r72]; exact L4) (by rw [E27]; exact W0) (by rw [E27]; exact W6) a0 (fun z _ _ => (z ⟨rfl, by rw [f0, if_pos e]⟩).elim) (fun _ e2 M4 S' Y' htk hm4 => ?_) (fun z => by omega) (fun z => by omega))
    have es : sr (Y 1) (S 2) 300 0 (sr0 Y) = sr (Y 1) n 300 0 (rs0 (Y 11) (Y 12)) := by rw [r74]; rfl
    rw [es] at htk ⊢
    have hJR := JR_skin (hs2 := hs2) (j := j) hR h5 n0 hbnd hp1 hbo.2.2 htk hz
    rw [← hbo.2.2.2.2.1 0 (by omega) (by omega), ← hbo.2.2.2.2.1 1 (by omega) (by omega)]
    refine hq M4 S' Y' _ hm4 hJR ?_
    have y21 := htk.2.2.2.2.2 21 (by decide) (by decide) (by decide) (by decide) (by decide)
    unfold j21
    rw [y21]
    exact h21
end JSKIN
