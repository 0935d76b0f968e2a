/-! ===== both sides at once: faults, texts ===== -/
section JTEXT
variable {g : sk_G} {d ck sk : Nat} {M M1 : sk_M} {Q : sk_P} {A bs N : Nat} {scr : Int → Int} {k : Int} {x1 x2 x3 x4 : Int} {ra rb nl nw : Nat} {R H R2 H2 T f f2 nc nle ni rf : Int → Int} {b1 b2 : Bool} {hands h2 sc dr n i lc wn ho next kept has nm : Int} {lawF wrF pgs : Int → Option Nat} {lad wad : Int → Nat} {qs : Int → List lq_C} {sg ln pl ss lg : Int → Int → Int} {size lines longest letters : Int → Int} {cnt : Int → hC} {c ci : hC} {nh : Int} {S : Nat → Int} {Y : Nat → Int → Int}
theorem ft_eq (hT : tp_ok T n) (h2 : S 2 = n) (h : ta T (Y 1) n) : tp_ok (Y 1) (S 2) ∧ (ft S Y 0 = if (sr T n 300 0 (rs0 R2 H2)).1 = true then -1 else (sr T n 300 0 (rs0 R2 H2)).2.1) ∧ (ft S Y 1 = if (lr T n 300 0).1 = true then -1 else (lr T n 300 0).2.1) ∧ (ft S Y 2 = if (rw' T n 4 0 0).1 = true ∧ 0 < wr_let (wf (rw' T n 4 0 0).2.2) then -1 else (rw' T n 4 0 0).2.1) := by
  have e := sr_both (R2 := R2) (H2 := H2) (R2' := Y 11) (H2' := Y 12) h
  refine ⟨?_, ?_, ?_, ?_⟩
  · rw [h2]
    exact ⟨hT.1, hT.2.1, fun j j0 j1 => by rw [← h j j1]; exact hT.2.2 j j0 j1⟩
  · unfold ft
    rw [if_pos rfl, h2, e.1, e.2.1]
    rfl
  · unfold ft
    rw [if_neg (by decide), if_pos rfl, h2, ta_lr h]
  · unfold ft
    rw [if_neg (by decide), if_neg (by decide), if_pos rfl, h2, ta_rw h]
    exact ite_c2 (and_congr Iff.rfl (wr_any_let _)) (fun _ => rfl) (fun _ => rfl)
theorem j_fault (hd : 125 ≤ d) (hJ : J g A bs N scr k M) (h5 : k < 512) (a1 : i32 x1) (hQ : ∀ v M1, JM g A bs N scr (k + 1) xX12_fault [.inl x1] v M1 → Q (some (.inl v)) M1) : sk_call g d ck sk xX11_fault [.inr (.inr (some A)), .inl x1] M Q := by
  obtain ⟨ra, rb, nl, nw, R, H, R2, H2, T, f, f2, nc, nle, ni, rf, b1, b2, hands, h2, sc, dr, n, i, lc, wn, ho, next, kept, has, nm, lawF, wrF, pgs, lad, wad, qs, sg, ln, pl, ss, lg, size, lines, longest, letters, cnt, c, ci, nh, S, Y, hX, ht, hm, hR, h21⟩ := hJ
  obtain ⟨⟨B0, B4⟩, Bru, ⟨Bl0, Bl1⟩, ⟨Bc0, Bc1⟩, ⟨E23, E27, E22⟩, E0, ⟨W0, W6⟩⟩ := jd_bounds hX hR
  obtain ⟨⟨hx, hx2⟩, G2, ⟨hsh, ⟨L0, L4⟩, W06, L9⟩, G4, G5, G6, ⟨hws, hwa⟩, ⟨hP, hL⟩, hh, ⟨hI, hIL⟩, hNo, hr, ⟨hst, hsb, hsk, hscr, hout, hA⟩⟩ := id hX
  obtain ⟨r1, ⟨r2, r2'⟩, r3, ⟨r4, r4'⟩, ⟨r5, r5'⟩, ⟨r6, r61, r62, r63⟩, ⟨⟨r7, r7a, r7b⟩, r71, r72, r73, r74, r75⟩, r8, r9⟩ := id hR
  obtain ⟨⟨Y0, Y1', Y2⟩, -⟩ := id r1
  obtain ⟨q1, q2, ⟨q3, q4, q5⟩, q6, q7, q8, hk⟩ := id r3
  have rX := jd_rx hX hR
  have hwl := jd_wl hR
  have hH := jd_xH hR
  obtain ⟨hTp, hTo⟩ := id G2
  obtain ⟨⟨len, top, st, lf, kk, hnl⟩, -⟩ := id G4
  obtain ⟨⟨sg9, ln9, pl9, ss9, lg9, size9, lines9, longest9, letters9, hnw⟩, -⟩ := id G5
  obtain ⟨hTY, f0, f1, f2⟩ := ft_eq (R2 := R2) (H2 := H2) hTo r74 r75
  have fin : ∀ (M1 : sk_M) (j : Int) (R' H' : Int → Int) (h' : Int) (b' : Bool) (len' top' : Int) (st' lf' kk' sg' ln' pl' ss' lg' : Int → Int) (size' lines' longest' letters' : Int), sk_fr1 M M1 (fF A rb nl nw) → tp_at M1 (A + 1) (A + 2) T n j → ru_at M1 rb R' H' h' (sk_b b') → lwo M1 nl (nl + 1) (nl + 2) (nl + 3) len' top' st' lf' kk' → wr_at M1 nw sg' ln' pl' ss' lg' size' lines' longest' letters' → ∀ v, ft S Y x1 = v → JM g A bs N scr (k + 1) xX12_fault [.inl x1] v M1 := by
    intro M1 j R' H' h' b' len' top' st' lf' kk' sg' ln' pl' ss' lg' size' lines' longest' letters' fr t1 t2 t3 t4 v ev
    obtain ⟨hX1, q1, m1⟩ := JX_f hX fr t1 t2 t3 t4
    refine JM_m hX1 (q1 ht) (m1 S Y hm) (fun d Q hd hq => m_fault (Nat.le_trans (by decide) hd) (m1 S Y hm) hTY a1 (fun M2 S' Y' hrq hm2 => ?_))
    rw [ev]
    exact hq M2 S' Y' nh hm2 (JR_k (JR_rq hR hrq L4 W6) h5) (rq_21 hrq h21)
  refine c_faultOf (Nat.le_trans (by decide) hd) hx hsh hTp hTo hx2 hnl hnw hsb a1 ?_ ?_ ?_ ?_ ?_ ?_ ?_
  · exact fun z0 z1 z2 M1 fr t r l w => hQ _ M1 (fin M1 _ _ _ _ _ _ _ _ _ _ _ _ _ _ _ _ _ _ _ fr t r l w _ (by unfold ft; rw [if_neg z0, if_neg z1, if_neg z2]))
  · exact fun z e M1 j fr t r l w => hQ _ M1 (fin M1 _ _ _ _ _ _ _ _ _ _ _ _ _ _ _ _ _ _ _ fr t r l w _ (by rw [z, f0, if_pos e]))
  · exact fun z e M1 j R' H' h' b' fr t r l w => hQ _ M1 (fin M1 _ _ _ _ _ _ _ _ _ _ _ _ _ _ _ _ _ _ _ fr t r l w _ (by rw [z, f0, if_neg (by rw [e]; decide)]))
  · exact fun z e M1 j fr t r l w => hQ _ M1 (fin M1 _ _ _ _ _ _ _ _ _ _ _ _ _ _ _ _ _ _ _ fr t r l w _ (by rw [z, f1, if_pos e]))
  · exact fun z e M1 j len' st' fr t r l w => hQ _ M1 (fin M1 _ _ _ _ _ _ _ _ _ _ _ _ _ _ _ _ _ _ _ fr t r l w _ (by rw [z, f1, if_neg (by rw [e]; decide)]))
  · exact fun z e e2 M1 j fr t r l w => hQ _ M1 (fin M1 _ _ _ _ _ _ _ _ _ _ _ _ _ _ _ _ _ _ _ fr t r l w _ (by rw [z, f2, if_pos ⟨e, e2⟩]))
  · exact fun z e M1 j sg' ln' pl' ss' lg' size' lines' longest' letters' fr t r l w => hQ _ M1 (fin M1 _ _ _ _ _ _ _ _ _ _ _ _ _ _ _ _ _ _ _ fr t r l w _ (by rw [z, f2, if_neg e]))
/-- no text taken -/
theorem jt_N {R' H' : Int → Int} {h' j : Int} {b' : Bool} (hX : JX g M1 A bs N scr ra rb nl nw R H (R') (H') T f f2 nc nle ni rf b1 (b') hands (h') sc dr n (j) lc wn ho next kept has nm lawF wrF pgs lad wad qs sg ln pl ss lg size lines longest letters cnt c ci) (ht : tm M1 A) (hm : md M1 M1 (A + 53) S Y) (hR : JR k ra rb nl nw R H R2 H2 T f f2 nc nle ni rf b1 b2 hands h2 sc dr n i lc wn ho next kept has nm lawF wrF pgs lad wad qs sg ln pl ss lg size lines longest letters cnt c ci nh S Y) (h5 : k < 512) (h21 : j21 Y) (hTY : tp_ok (Y 1) (S 2)) (a1 : i32 x1) (l4 : 0 ≤ lc ∧ lc ≤ 4) (w6 : 0 ≤ wn ∧ wn ≤ 6) (h0 : ¬ (x1 = 0 ∧ ft S Y 0 = -1)) (h1 : ¬ (x1 = 1 ∧ lc < 4 ∧ ft S Y 1 = -1)) (h2 : ¬ (x1 = 2 ∧ wn < 6 ∧ ft S Y 2 = -1)) : JM g A bs N scr (k + 1) xX12_text [.inl x1] (-1) M1 := by
  have e13 : S 13 = lc := hR.2.2.2.2.2.2.1.2.2.1
  have e27 : S 27 = wn := hR.1.2.2.2.1
  refine JM_m hX ht hm (fun d Q hd hq => m_text (Nat.le_trans (by decide) hd) hm hTY (by omega) (by omega) (by omega) (by omega) a1 (fun _ _ _ M2 S' Y' x w hx hw hrq hm2 => hq M2 S' Y' nh hm2 (JR_k (JR_rq hR hrq (by omega) (by omega)) h5) (rq_21 hrq h21)) (fun z e => (h0 ⟨z, ?_⟩).elim) (fun z z2 e => (h1 ⟨z, by omega, ?_⟩).elim) (fun z z2 e e2 => (h2 ⟨z, by omega, ?_⟩).elim))
  · unfold ft; rw [if_pos rfl, if_pos e]
  · unfold ft; rw [if_neg (by decide), if_pos rfl, if_pos e]
  · unfold ft; rw [if_neg (by decide), if_neg (by decide), if_pos rfl, if_pos ⟨e, e2⟩]
theorem j_textB (hd : 125 ≤ d) (hJ : J g A bs N scr k M) (h5 : k < 512) (a1 : i32 x1) (z0 : x1 ≠ 0) (z1 : x1 ≠ 1) (z2 : x1 ≠ 2) (hQ : ∀ v M1, JM g A bs N scr (k + 1) xX12_text [.inl x1] v M1 → Q (some (.inl v)) M1) : sk_call g d ck sk xX11_text [.inr (.inr (some A)), .inl x1] M Q := by
  obtain ⟨ra, rb, nl, nw, R, H, R2, H2, T, f, f2, nc, nle, ni, rf, b1, b2, hands, h2, sc, dr, n, i, lc, wn, ho, next, kept, has, nm, lawF, wrF, pgs, lad, wad, qs, sg, ln, pl, ss, lg, size, lines, longest, letters, cnt, c, ci, nh, S, Y, hX, ht, hm, hR, h21⟩ := hJ
  obtain ⟨⟨B0, B4⟩, Bru, ⟨Bl0, Bl1⟩, ⟨Bc0, Bc1⟩, ⟨E23, E27, E22⟩, E0, ⟨W0, W6⟩⟩ := jd_bounds hX hR
  obtain ⟨⟨hx, hx2⟩, G2, ⟨hsh, ⟨L0, L4⟩, W06, L9⟩, G4, G5, G6, ⟨hws, hwa⟩, ⟨hP, hL⟩, hh, ⟨hI, hIL⟩, hNo, hr, ⟨hst, hsb, hsk, hscr, hout, hA⟩⟩ := id hX
  obtain ⟨r1, ⟨r2, r2'⟩, r3, ⟨r4, r4'⟩, ⟨r5, r5'⟩, ⟨r6, r61, r62, r63⟩, ⟨⟨r7, r7a, r7b⟩, r71, r72, r73, r74, r75⟩, r8, r9⟩ := id hR
  obtain ⟨⟨Y0, Y1', Y2⟩, -⟩ := id r1
  obtain ⟨q1, q2, ⟨q3, q4, q5⟩, q6, q7, q8, hk⟩ := id r3
  have rX := jd_rx hX hR
  have hwl := jd_wl hR
  have hH := jd_xH hR
  obtain ⟨hTp, hTo⟩ := id G2
  obtain ⟨⟨len, top, st, lf, kk, hnl⟩, -⟩ := id G4
  obtain ⟨⟨sg9, ln9, pl9, ss9, lg9, size9, lines9, longest9, letters9, hnw⟩, -⟩ := id G5
  obtain ⟨hTY, -⟩ := ft_eq (R2 := R2) (H2 := H2) hTo r74 r75
  refine x_textB (RN := fun M1 => JM g A bs N scr (k + 1) xX12_text [.inl x1] (-1) M1) (Nat.le_trans (by decide) hd) hx.1 (fun Q' hN' => c_faultOf (by omega) hx hsh hTp hTo hx2 hnl hnw hsb a1 (fun _ _ _ M1 fr t r l w => hN' _ M1 (by decide) (by decide) (by decide) ?_) (fun z => (z0 z).elim) (fun z => (z0 z).elim) (fun z => (z1 z).elim) (fun z => (z1 z).elim) (fun z => (z2 z).elim) (fun z => (z2 z).elim)) (fun M' h => hQ _ M' h)
  obtain ⟨hX1, q1, m1⟩ := JX_f hX fr t r l w
  exact jt_N hX1 (q1 ht) (m1 S Y hm) hR h5 h21 hTY a1 ⟨L0, L4⟩ ⟨W0, W6⟩ (fun z => z0 z.1) (fun z => z1 z.1) (fun z => z2 z.1)
end JTEXT
