/-! ===== both sides at once: a law taken, a writing taken ===== -/
section JLAW
variable {g : sk_G} {d ck sk : Nat} {M M1 M2 M3 : sk_M} {Q : sk_P} {A bs N : Nat} {scr : Int → Int} {k : Int} {x1 x2 x3 x4 : Int} {ra rb nl nw : Nat} {R H R2 H2 T f f2 nc nle ni rf : Int → Int} {b1 b2 : Bool} {hands h2 sc dr n i lc wn ho next kept has nm : Int} {lawF wrF pgs : Int → Option Nat} {lad wad : Int → Nat} {qs : Int → List lq_C} {sg ln pl ss lg : Int → Int → Int} {size lines longest letters : Int → Int} {cnt : Int → hC} {c ci : hC} {nh : Int} {S : Nat → Int} {Y : Nat → Int → Int}
theorem sk_upA_at (f : Int → Option Nat) (i : Int) (x : Option Nat) (j : Int) : sk_upA f i x j = if j = i then x else f j := rfl
/-- the class behind a law taken -/
theorem JX_law {q9 : List lq_C} {j : Int} (hX : JX g M A bs N scr ra rb nl nw R H R2 H2 T f f2 nc nle ni rf b1 b2 hands h2 sc dr n (j) lc wn ho next kept has nm lawF wrF pgs lad wad qs sg ln pl ss lg size lines longest letters cnt c ci) (ht : tm M A) (hl9 : lx M nl q9) (l4 : lc < 4) (h1 : M2.1 = M.1 + 4) (he : ∀ q, q < M.1 → q ≠ A + 9 → q ≠ A + 10 → M2.2 q = M.2 q) (hS : sh_at M2 A M.1 nw (lc + 1) wn ho (sk_upA lawF lc (some nl)) wrF) (hnew : lwo M2 M.1 (M.1 + 1) (M.1 + 2) (M.1 + 3) 0 0 (fun _ => 0) (fun _ => 0) (fun _ => 0)) (fr3 : sk_fr1 M2 M3 (fun q => q = A + 1)) (hT3 : tp_at M3 (A + 1) (A + 2) T 0 j) : JX g M3 A bs N scr ra rb (M.1) nw R H R2 H2 T f f2 nc nle ni rf b1 b2 hands h2 sc dr (0) (j) (lc + 1) wn ho next kept has nm (sk_upA lawF lc (some nl)) wrF pgs (fun l => if l = lc then nl else lad l) wad (fun l => if l = lc then q9 else qs l) sg ln pl ss lg size lines longest letters cnt c ci ∧ tm M3 A ∧ ∀ S Y, md M M (A + 53) S Y → md M3 M3 (A + 53) S Y := by
  have hA := hX.2.2.2.2.2.2.2.2.2.2.2.2.2.2.2.2.2
  obtain ⟨hsh0, ⟨c0, c4⟩, cw, ch⟩ := hX.2.2.1
  have h04 := hX.2.2.2.1
  have h06 := hX.2.2.2.2.2.1
  have f3 : ∀ q, q < M.1 → q ≠ A + 9 → q ≠ A + 10 → q ≠ A + 1 → M3.2 q = M.2 q := fun q z0 z1 z2 z3 => (fr3.2 q z3).trans (he q z0 z1 z2)
  obtain ⟨p1, p2, p3, ⟨p4, p5, p6, p7⟩, p8, p9, p10, p11, p12, p14, pt, pm⟩ := JX_p (M1 := M3) (P := fun q => q = A + 9 ∨ q = A + 10 ∨ q = A + 1) hX (by rw [fr3.1, h1]; omega) (fun q q0 hq => f3 q q0 (fun e => hq (Or.inl e)) (fun e => hq (Or.inr (Or.inl e))) (fun e => hq (Or.inr (Or.inr e)))) (fun q e => by omega)
  have g3' : g3 M3 A M.1 nw (lc + 1) wn ho (sk_upA lawF lc (some nl)) wrF := ⟨⟨(fr3.2 _ (by omega)).trans hS.1, (fr3.2 _ (by omega)).trans hS.2.1, (fr3.2 _ (by omega)).trans hS.2.2⟩, ⟨by omega, by omega⟩, cw, by omega⟩
  have g4' : g4 M3 A M.1 := ⟨⟨_, _, _, _, _, lwo_e hnew (fun q q0 q1 => fr3.2 q (by omega))⟩, Or.inr hA, by rw [fr3.1, h1]; omega⟩
  have nl1 : nl + 3 < M.1 := h04.2.2
  have g6' : g6 M3 A M.1 (lc + 1) (sk_upA lawF lc (some nl)) (fun l => if l = lc then nl else lad l) (fun l => if l = lc then q9 else qs l) := by
    intro l l0 l1
    by_cases e : l = lc
    · subst e
      simp only [if_true]
      refine ⟨sk_upA_self _ _ _, lx_eq hl9 (fun q q0 q1 => f3 q (by omega) (fun z => ?_) (fun z => ?_) (fun z => ?_)), h04.2.1, by rw [fr3.1, h1]; omega, by omega, fun l' l0' l1' ne => ?_⟩
      · have := h04.2.1; unfold lhA at this; omega
      · have := h04.2.1; unfold lhA at this; omega
      · have := h04.2.1; unfold lhA at this; omega
      · rw [if_neg ne]
        exact (h06 l' l0' (by omega)).2.2.2.2.1
    · obtain ⟨a1, a2, a3, a4, a5, a6⟩ := p6 l l0 (by omega)
      have a4' := (h06 l l0 (by omega)).2.2.2.1
      simp only [if_neg e]
      refine ⟨(sk_upA_ne _ _ e).trans a1, a2, a3, a4, by omega, fun l' l0' l1' ne => ?_⟩
      by_cases e' : l' = lc
      · rw [if_pos e']; exact fun z => a5 z.symm
      · rw [if_neg e']; exact a6 l' l0' (by omega) ne
  exact ⟨⟨p1 (fun q e => by omega), ⟨hT3, by omega, by omega, fun j j0 j1 => by omega⟩, g3', g4', p5, g6', p7, p8 (fun q e => by omega), p9 (fun q e => by omega), p10 (fun q e => by omega), p11 (fun q e => by omega), p12 (fun q e => by omega), p14⟩, pt (fun q e => by unfold tF; omega) ht, pm⟩
theorem JR_law {q9 : List lq_C} {j i9 : Int} {nl' : Nat} {lawF' : Int → Option Nat} {lad' : Int → Nat} {S' : Nat → Int} {Y' : Nat → Int → Int} (hR : JR k ra rb nl nw R H R2 H2 T f f2 nc nle ni rf b1 b2 hands h2 sc dr n i lc wn ho next kept has nm lawF wrF pgs lad wad qs sg ln pl ss lg size lines longest letters cnt c ci nh S Y) (h5 : k < 512) (hn0 : 0 ≤ n) (htk : tkl S Y q9 i9 S' Y') (h1 : q9.length ≤ 140) (h2' : (lfl q9).length ≤ 520) (h3 : ∀ q ∈ q9, lq_good q) : JR (k + 1) ra rb (nl') nw R H R2 H2 T f f2 nc nle ni rf b1 b2 hands h2 sc dr (0) (j) (lc + 1) wn ho next kept has nm (lawF') wrF pgs (lad') wad (fun l => if l = lc then q9 else qs l) sg ln pl ss lg size lines longest letters cnt c ci nh (S') (Y') ∧ (j21 Y → j21 Y') := by
  obtain ⟨r1, ⟨r2, r2'⟩, r3, ⟨r4, r4'⟩, ⟨r5, r5'⟩, ⟨r6, r61, r62, r63⟩, ⟨r7, r71, r72, r73, r74, r75⟩, r8, r9⟩ := JR_k hR h5
  have tm' := tkl_mla htk
  have tk' := tkl_keep htk h1
  have ts' := tkl_S htk
  rw [r72] at tm' ts'
  have hS := fun j (h : j ≠ 2 ∧ j ≠ 3 ∧ j ≠ 4 ∧ j ≠ 5 ∧ j ≠ 13 ∧ j ≠ 14) => ts'.2.2 j h.1 h.2.1 h.2.2.1 h.2.2.2.1 h.2.2.2.2.1 h.2.2.2.2.2
  have hY := fun k (h : k ≠ 2 ∧ k ≠ 3 ∧ k ≠ 4 ∧ k ≠ 5 ∧ k ≠ 6 ∧ k ≠ 7 ∧ k ≠ 8) => tk'.1 k h.1 h.2.1 h.2.2.1 h.2.2.2.1 h.2.2.2.2.1 h.2.2.2.2.2.1 h.2.2.2.2.2.2
  refine ⟨⟨bw_e r1 (hS _ (by decide)) (hS _ (by decide)) (hY _ (by decide)) (hY _ (by decide)) (hY _ (by decide)) (hY _ (by decide)), ⟨bn_e r2 (hS _ (by decide)) (hY _ (by decide)) (hY _ (by decide)) (hY _ (by decide)), r2'⟩, by rw [hY 18 (by decide)]; exact r3, ⟨by rw [hY 20 (by decide)]; exact r4, (hS _ (by decide)).trans r4'⟩, ⟨(hS _ (by decide)).trans r5, by rw [hY 30 (by decide)]; exact r5'⟩, ⟨by rw [hY 19 (by decide)]; exact r6, r61, r62, r63⟩, ⟨⟨(hS _ (by decide)).trans r7.1, r7.2⟩, (hS _ (by decide)).trans r71, ts'.1, (hS _ (by decide)).trans r73, ts'.2.1, fun j hj => by rw [hY 1 (by decide)]; exact r75 j (by omega)⟩, j8_e r8 (hY _ (by decide)), fun l l0 l1 => ?_⟩, fun h => by unfold j21; rw [hY 21 (by decide)]; exact h⟩
  by_cases e : l = lc
  · subst e
    simp only [if_true]
    exact ⟨tm', h1, h2', h3⟩
  · simp only [if_neg e]
    obtain ⟨b1, b2', b3, b4⟩ := r9 l l0 (by omega)
    exact ⟨mla_keep (tk'.2 l (by omega)) (by omega) (by omega) (by omega) (by omega) b1, b2', b3, b4⟩
theorem j_text1 (hd : 125 ≤ d) (hck : 90 ≤ ck) (hsk' : 8580 ≤ sk) (hJ : J g A bs N scr k M) (h5 : k < 512) (hQ : ∀ v M1, JM g A bs N scr (k + 1) xX12_text [.inl 1] v M1 → Q (some (.inl v)) M1) : sk_call g d ck sk xX11_text [.inr (.inr (some A)), .inl 1] M Q := by
  obtain ⟨ra, rb, nl, nw, R, H, R2, H2, T, f, f2, nc, nle, ni, rf, b1, b2, hands, h2, sc, dr, n, i, lc, wn, ho, next, kept, has, nm, lawF, wrF, pgs, lad, wad, qs, sg, ln, pl, ss, lg, size, lines, longest, letters, cnt, c, ci, nh, S, Y, hX, ht, hm, hR, h21⟩ := hJ
  obtain ⟨⟨B0, B4⟩, Bru, ⟨Bl0, Bl1⟩, ⟨Bc0, Bc1⟩, ⟨E23, E27, E22⟩, E0, ⟨W0, W6⟩⟩ := jd_bounds hX hR
  obtain ⟨⟨hx, hx2⟩, G2, ⟨hsh, ⟨L0, L4⟩, W06, L9⟩, G4, G5, G6, ⟨hws, hwa⟩, ⟨hP, hL⟩, hh, ⟨hI, hIL⟩, hNo, hr, ⟨hst, hsb, hsk, hscr, hout, hA⟩⟩ := id hX
  obtain ⟨r1, ⟨r2, r2'⟩, r3, ⟨r4, r4'⟩, ⟨r5, r5'⟩, ⟨r6, r61, r62, r63⟩, ⟨⟨r7, r7a, r7b⟩, r71, r72, r73, r74, r75⟩, r8, r9⟩ := id hR
  obtain ⟨⟨Y0, Y1', Y2⟩, -⟩ := id r1
  obtain ⟨q1, q2, ⟨q3, q4, q5⟩, q6, q7, q8, hk⟩ := id r3
  have rX := jd_rx hX hR
  have hwl := jd_wl hR
  have hH := jd_xH hR
  obtain ⟨hTp, hTo⟩ := id G2
  obtain ⟨⟨len, top, st, lf, kk, hnl⟩, g4b⟩ := id G4
  obtain ⟨⟨sg9, ln9, pl9, ss9, lg9, size9, lines9, longest9, letters9, hnw⟩, -⟩ := id G5
  obtain ⟨hTY, f0, f1, f2'⟩ := ft_eq (R2 := R2) (H2 := H2) hTo r74 r75
  have a0 : i32 1 := by unfold i32; omega
  have hpos := lr_pos hTo 300 0 (by omega) hTo.1
  have hlen := lr_len hTo 300 0 0 (by omega) hTo.1
  have hln := lr_n hTo 300 0 (by omega) hTo.1
  have hgd := lr_good hTo 300 0 (by omega) hTo.1
  have n240 := hTo.2.1
  have n0 := hTo.1
  have lnew := fun (M1 : sk_M) (top : Int) (st lf kk : Int → Int) => lx_new (T := T) (st := st) (lf := lf) (kk := kk) (n := n) (top := top) (M := M1) (a := nl) hTo
  have elr : lr (Y 1) (S 2) 300 0 = lr T n 300 0 := by rw [r74, ta_lr r75]
  have hno : ∀ (M1 : sk_M) (j : Int), JX g M1 A bs N scr ra rb nl nw R H R2 H2 T f f2 nc nle ni rf b1 b2 hands h2 sc dr n (j) lc wn ho next kept has nm lawF wrF pgs lad wad qs sg ln pl ss lg size lines longest letters cnt c ci → tm M1 A → md M1 M1 (A + 53) S Y → ¬ (lc < 4 ∧ ft S Y 1 = -1) → JM g A bs N scr (k + 1) xX12_text [.inl 1] (-1) M1 := fun M1 j q1 q2 q3 q4 => jt_N q1 q2 q3 hR h5 h21 hTY a0 ⟨L0, L4⟩ ⟨W0, W6⟩ (fun z => by omega) (fun z => q4 z.2) (fun z => by omega)
  refine x_text1 (RN := fun M1 => JM g A bs N scr (k + 1) xX12_text [.inl 1] (-1) M1) (RY := fun M1 => (lr T n 300 0).1 = true ∧ ∃ j, JX g M1 A bs N scr ra rb nl nw R H R2 H2 T f f2 nc nle ni rf b1 b2 hands h2 sc dr n (j) lc wn ho next kept has nm lawF wrF pgs lad wad qs sg ln pl ss lg size lines longest letters cnt c ci ∧ tm M1 A ∧ md M1 M1 (A + 53) S Y ∧ lx M1 nl (lr T n 300 0).2.2) (Nat.le_trans (by decide) hd) (Nat.le_trans (by decide) hck) (Nat.le_trans (by decide) hsk') hx.1 (fun Q' hN' hY' => c_faultOf (by omega) hx hsh hTp hTo hx2 hnl hnw hsb a0 (fun _ z => (z rfl).elim) (fun z => by omega) (fun z => by omega) (fun _ e M1 j fr t rr l w => hY' M1 ?_) (fun _ e M1 j len' st' fr t rr l w => hN' _ M1 ?_ ?_ ?_ ?_) (fun z => by omega) (fun z => by omega)) (fun M' h => hQ _ M' h) (fun M' h => ?_)
  · obtain ⟨hX1, q1, m1⟩ := JX_f hX fr t rr l w
    exact ⟨e, j, hX1, q1 ht, m1 S Y hm, lnew M1 _ _ _ _ e l⟩
  · omega
  · omega
  · omega
  · obtain ⟨hX1, q1', m1⟩ := JX_f hX fr t rr l w
    exact hno M1 j hX1 (q1' ht) (m1 S Y hm) (fun z => by have z2 := z.2; rw [f1, if_neg (by rw [e]; decide)] at z2; omega)
  · obtain ⟨e, j, hX1, ht1, hm1, hlx⟩ := h
    have h1 := hX1.1.1.1
    have g3' := hX1.2.2.1
    have g4' := hX1.2.2.2.1
    have hA1 := hX1.2.2.2.2.2.2.2.2.2.2.2.2.2.2.2.2.2
    have kk9 := lx_kinds hlx
    refine ⟨⟨h1, by rw [g3'.1.1]⟩, fun Q' hq' => c_takeLaw (by omega) (by omega) (by omega) g3'.1 L0 L4 (by omega) kk9.1 (by have := g4'.2.2; omega) (fun z => hq' _ M' ?_) (fun z M2 e1 e2 e3 e4 => hq' _ M2 ?_)⟩
    · refine ⟨ra, rb, sc, dr, T, n, j, by omega, by omega, h1, hX1.2.1.1, n0, n240, fun _ => hQ _ M' (hno M' j hX1 ht1 hm1 (fun y => by omega)), fun y => by omega⟩
    · have hT2 : tp_at M2 (A + 1) (A + 2) T n j := ⟨(e2 _ (by omega) (by omega) (by omega)).trans hX1.2.1.1.1, (e2 _ (by omega) (by omega) (by omega)).trans hX1.2.1.1.2⟩
      refine ⟨ra, rb, sc, dr, T, n, j, by omega, by omega, (e2 _ (by omega) (by omega) (by omega)).trans h1, hT2, n0, n240, fun y => by omega, fun _ M3 fr3 hT3 => hQ _ M3 ?_⟩
      obtain ⟨hX3, ht3, hm3⟩ := JX_law hX1 ht1 hlx z e1 e2 e3 e4 fr3 hT3
      refine JM_m hX3 ht3 (hm3 S Y hm1) (fun d Q hd hq => m_text (Nat.le_trans (by decide) hd) (hm3 S Y hm1) hTY (by rw [r72]; exact L0) (by rw [r72]; exact L4) (by rw [E27]; exact W0) (by rw [E27]; exact W6) a0 (fun _ y _ => (y ⟨rfl, by rw [r72]; exact z, by rw [f1, if_pos e]⟩).elim) (fun y => by omega) (fun _ y1 y2 M4 S' Y' htk hm4 => ?_) (fun y => by omega))
      rw [elr] at htk
      have fl := lfl_e (lr T n 300 0).2.2 0 (hgd e)
      obtain ⟨jr, j9⟩ := JR_law (nl' := M'.1) (lawF' := sk_upA lawF lc (some nl)) (lad' := fun l => if l = lc then nl else lad l) (j := j) hR h5 n0 htk (by omega) (by omega) (hgd e)
      rw [r72]
      exact hq M4 S' Y' nh hm4 jr (j9 h21)
end JLAW
