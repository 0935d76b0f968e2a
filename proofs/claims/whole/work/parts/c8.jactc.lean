/-! ===== both sides at once: laws let, scribes, notes; acts undone; images; the tape ===== -/
section JACTC
variable {g : sk_G} {d ck sk : Nat} {M M1 : sk_M} {Q : sk_P} {A bs N : Nat} {scr : Int → Int} {k : Int} {x1 x2 x3 x4 x5 : Int} {P : Nat → Prop} {ra rb nl nw : Nat} {R H R2 H2 T f f2 nc nle ni rf : Int → Int} {b1 b2 : Bool} {hands h2 sc dr n i lc wn ho next kept has nm : Int} {lawF wrF pgs : Int → Option Nat} {lad wad : Int → Nat} {qs : Int → List lq_C} {sg ln pl ss lg : Int → Int → Int} {size lines longest letters : Int → Int} {cnt : Int → hC} {c ci : hC} {nh : Int} {S : Nat → Int} {Y : Nat → Int → Int}
theorem JX_p (hX : JX g M A bs N scr ra rb nl nw R H R2 H2 T f f2 nc nle ni rf b1 b2 hands h2 sc dr n i lc wn ho next kept has nm lawF wrF pgs lad wad qs sg ln pl ss lg size lines longest letters cnt c ci) (h1 : M.1 ≤ M1.1) (he : ∀ q, q < M.1 → ¬ P q → M1.2 q = M.2 q) (hP : ∀ q, P q → (A ≤ q ∧ q ≤ A + 11) ∨ (A + 22 ≤ q ∧ q ≤ A + 52)) : ((∀ q, P q → q ≠ A ∧ ¬ (A + 3 ≤ q ∧ q ≤ A + 8)) → g1 M1 A ra rb R H R2 H2 hands h2 b1 b2 sc dr) ∧ ((∀ q, P q → ¬ (A + 1 ≤ q ∧ q ≤ A + 2)) → g2 M1 A T n i) ∧ ((∀ q, P q → ¬ (A + 9 ≤ q ∧ q ≤ A + 11)) → g3 M1 A nl nw lc wn ho lawF wrF) ∧ (g4 M1 A nl ∧ g5 M1 A nw ∧ g6 M1 A nl lc lawF lad qs ∧ g7 M1 A nw wn wrF wad sg ln pl ss lg size lines longest letters) ∧ ((∀ q, P q → ¬ (A + 22 ≤ q ∧ q ≤ A + 24) ∧ ¬ (A + 28 ≤ q ∧ q ≤ A + 29)) → g8 M1 A c f) ∧ ((∀ q, P q → q ≠ A + 30 ∧ q ≠ A + 31) → hg M1 A pgs cnt next kept has) ∧ ((∀ q, P q → ¬ (A + 32 ≤ q ∧ q ≤ A + 36)) → g10 M1 A ci f2) ∧ ((∀ q, P q → ¬ (A + 37 ≤ q ∧ q ≤ A + 40)) → no_at M1 (A + 37) nc nle ni nm) ∧ ((∀ q, P q → q ≠ A + 49) → M1.2 (A + 49) = (20, 5, sk_I rf)) ∧ g14 g M1 A bs N scr ∧ ((∀ q, P q → ¬ tF A q) → tm M A → tm M1 A) ∧ ∀ S Y, md M M (A + 53) S Y → md M1 M1 (A + 53) S Y := by
  have hd := JX_d (M1 := M1) hX h1 (fun q hq => he q (jb_in hX hq).2 (fun e => by have := jb_in hX hq; have := hP q e; omega))
  obtain ⟨h01, h02, h03, h04, h05, h06, h07, h08, h09, h10, h11, h12, h14⟩ := hX
  have hA := h14.2.2.2.2.2
  refine ⟨fun z => g1_e h01 (he _ (by omega) (fun e => (z _ e).1 rfl)) (fun q q0 q1 => he q (by omega) (fun e => (z _ e).2 ⟨q0, q1⟩)), fun z => g2_e h02 (fun q q0 q1 => he q (by omega) (fun e => z _ e ⟨q0, q1⟩)), fun z => g3_e h03 (fun q q0 q1 => he q (by omega) (fun e => z _ e ⟨q0, q1⟩)), hd, fun z => g8_e h08 (fun q hq => he q (by omega) (fun e => hq.elim (z _ e).1 (z _ e).2)), fun z => hg_mv h09 h1 (he _ (by omega) (fun e => (z _ e).1 rfl)) (he _ (by omega) (fun e => (z _ e).2 rfl)) (fun j b q j0 j1 jb q0 q1 => ?_), fun z => g10_e h10 (fun q q0 q1 => he q (by omega) (fun e => z _ e ⟨q0, q1⟩)), fun z => g11_e h11 (fun q q0 q1 => he q (by omega) (fun e => z _ e ⟨q0, q1⟩)), fun z => (he _ (by omega) (fun e => z _ e rfl)).trans h12, g14_e h14 h1 (fun q hq => he q (by omega) (fun e => by have := hP q e; omega)), fun z ht => tm_e ht (fun q hq => he q (by omega) (fun e => z _ e hq)), fun S Y hm => md_e hm (fun q q0 q1 => he q (by omega) (fun e => by have := hP q e; omega))⟩
  have := pgb h09 j0 j1 jb
  exact he q (by omega) (fun e => by have := hP q e; omega)
theorem j_law (hd : 125 ≤ d) (hJ : J g A bs N scr k M) (h5 : k < 512) (a1 : i32 x1) (hQ : ∀ v M1, JM g A bs N scr (k + 1) xX12_law [.inl x1] v M1 → Q (some (.inl v)) M1) : sk_call g d ck sk xX11_law [.inr (.inr (some A)), .inl x1] M Q := by
  obtain ⟨ra, rb, nl, nw, R, H, R2, H2, T, f, f2, nc, nle, ni, rf, b1, b2, hands, h2, sc, dr, n, i, lc, wn, ho, next, kept, has, nm, lawF, wrF, pgs, lad, wad, qs, sg, ln, pl, ss, lg, size, lines, longest, letters, cnt, c, ci, nh, S, Y, hX, ht, hm, hR, h21⟩ := hJ
  obtain ⟨⟨B0, B4⟩, Bru, ⟨Bl0, Bl1⟩, ⟨Bc0, Bc1⟩, ⟨E23, E27, E22⟩, E0, ⟨W0, W6⟩⟩ := jd_bounds hX hR
  obtain ⟨⟨hx, hx2⟩, G2, ⟨hsh, ⟨L0, L4⟩, W06, L9⟩, G4, G5, G6, ⟨hws, hwa⟩, ⟨hP, hL⟩, hh, ⟨hI, hIL⟩, hNo, hr, ⟨hst, hsb, hsk, hscr, hout, hA⟩⟩ := id hX
  obtain ⟨r1, ⟨r2, r2'⟩, r3, ⟨r4, r4'⟩, ⟨r5, r5'⟩, ⟨r6, r61, r62, r63⟩, ⟨⟨r7, r7a, r7b⟩, r71, r72, r73, r74, r75⟩, r8, r9⟩ := id hR
  obtain ⟨⟨Y0, Y1', Y2⟩, -⟩ := id r1
  obtain ⟨q1, q2, ⟨q3, q4, q5⟩, q6, q7, q8, hk⟩ := id r3
  have rX := jd_rx hX hR
  have hwl := jd_wl hR
  have hH := jd_xH hR
  refine x_law (Nat.le_trans (by decide) hd) hx hsh L0 L4 a1 (fun z => hQ _ M (JM_q hX ht hm hR h5 h21 (fun d Q hd hq => ?_))) (fun z0 z1 => ?_)
  · exact m_law (Nat.le_trans (by decide) hd) hm (by rw [r72]; exact L0) (by rw [r72]; exact L4) a1 (fun _ => hq M S Y hm (fun _ _ => rfl) (fun _ _ => rfl) h21) (fun y0 y1 => (z ⟨y0, by rw [← r72]; exact y1⟩).elim)
  · obtain ⟨M1, hM1⟩ : ∃ M1 : sk_M, M1 = (M.1, va_up M.2 (A + 9) (8, 0, sk_F [.inr (.inr (some (A + 10))), .inr (.inr (some (A + 11))), .inr (.inr (some nl)), .inr (.inr (some nw)), .inl lc, .inl wn, .inl x1])) := ⟨_, rfl⟩
    rw [← hM1]
    have he : ∀ q, q ≠ A + 9 → M1.2 q = M.2 q := fun q hq => by rw [hM1]; exact va_up_ne _ _ hq
    obtain ⟨p1, p2, p3, ⟨p4, p5, p6, p7⟩, p8, p9, p10, p11, p12, p14, pt, pm⟩ := JX_p (M1 := M1) (P := fun q => q = A + 9) hX (by rw [hM1]; exact Nat.le_refl _) (fun q _ hq => he q hq) (fun q e => by omega)
    have g3' : g3 M1 A nl nw lc wn x1 lawF wrF := ⟨⟨by rw [hM1]; exact va_up_self _ _ _, (he _ (by omega)).trans hsh.2.1, (he _ (by omega)).trans hsh.2.2⟩, ⟨L0, L4⟩, W06, Or.inl ⟨z0, z1⟩⟩
    have hX1 : JX g M1 A bs N scr ra rb nl nw R H R2 H2 T f f2 nc nle ni rf b1 b2 hands h2 sc dr n i lc wn (x1) next kept has nm lawF wrF pgs lad wad qs sg ln pl ss lg size lines longest letters cnt c ci := ⟨p1 (fun q e => by omega), p2 (fun q e => by omega), g3', p4, p5, p6, p7, p8 (fun q e => by omega), p9 (fun q e => by omega), p10 (fun q e => by omega), p11 (fun q e => by omega), p12 (fun q e => by omega), p14⟩
    refine hQ _ M1 (JM_m hX1 (pt (fun q e => by unfold tF; omega) ht) (pm S Y hm) (fun d Q hd hq => ?_))
    refine m_law (Nat.le_trans (by decide) hd) (pm S Y hm) (by rw [r72]; exact L0) (by rw [r72]; exact L4) a1 (fun y => (y ⟨z0, by rw [r72]; exact z1⟩).elim) (fun y0 y1 M2 hm2 => hq M2 _ _ nh hm2 ?_ h21)
    obtain ⟨s1, s2, s3, s4, s5, s6, ⟨s7, s71, s72, s73, s74, s75⟩, s8, s9⟩ := JR_k hR h5
    exact ⟨s1, s2, s3, s4, s5, s6, ⟨s7, va_up_self _ _ _, s72, s73, s74, s75⟩, s8, s9⟩
theorem j_scribes (hd : 125 ≤ d) (hJ : J g A bs N scr k M) (h5 : k < 512) (a1 : i32 x1) (hQ : ∀ v M1, JM g A bs N scr (k + 1) xX12_scribes [.inl x1] v M1 → Q (some (.inl v)) M1) : sk_call g d ck sk xX11_scribes [.inr (.inr (some A)), .inl x1] M Q := by
  obtain ⟨ra, rb, nl, nw, R, H, R2, H2, T, f, f2, nc, nle, ni, rf, b1, b2, hands, h2, sc, dr, n, i, lc, wn, ho, next, kept, has, nm, lawF, wrF, pgs, lad, wad, qs, sg, ln, pl, ss, lg, size, lines, longest, letters, cnt, c, ci, nh, S, Y, hX, ht, hm, hR, h21⟩ := hJ
  obtain ⟨⟨B0, B4⟩, Bru, ⟨Bl0, Bl1⟩, ⟨Bc0, Bc1⟩, ⟨E23, E27, E22⟩, E0, ⟨W0, W6⟩⟩ := jd_bounds hX hR
  obtain ⟨⟨hx, hx2⟩, G2, ⟨hsh, ⟨L0, L4⟩, W06, L9⟩, G4, G5, G6, ⟨hws, hwa⟩, ⟨hP, hL⟩, hh, ⟨hI, hIL⟩, hNo, hr, ⟨hst, hsb, hsk, hscr, hout, hA⟩⟩ := id hX
  obtain ⟨r1, ⟨r2, r2'⟩, r3, ⟨r4, r4'⟩, ⟨r5, r5'⟩, ⟨r6, r61, r62, r63⟩, ⟨⟨r7, r7a, r7b⟩, r71, r72, r73, r74, r75⟩, r8, r9⟩ := id hR
  obtain ⟨⟨Y0, Y1', Y2⟩, -⟩ := id r1
  obtain ⟨q1, q2, ⟨q3, q4, q5⟩, q6, q7, q8, hk⟩ := id r3
  have rX := jd_rx hX hR
  have hwl := jd_wl hR
  have hH := jd_xH hR
  refine x_scribes (Nat.le_trans (by decide) hd) hx r7a r7b a1 (fun z => hQ _ M (JM_q hX ht hm hR h5 h21 (fun d Q hd hq => ?_))) (fun z0 z1 z2 => ?_)
  · exact m_scribes (Nat.le_trans (by decide) hd) hm (by rw [r7]; exact r7a) (by rw [r7]; exact r7b) a1 (fun _ => hq M S Y hm (fun _ _ => rfl) (fun _ _ => rfl) h21) (fun y0 y1 y2 => (z ⟨y0, y1, by rw [← r7]; exact y2⟩).elim)
  · obtain ⟨M1, hM1⟩ : ∃ M1 : sk_M, M1 = (M.1, va_up M.2 A (11, 0, xF A ra rb x1 dr)) := ⟨_, rfl⟩
    rw [← hM1]
    have he : ∀ q, q ≠ A → M1.2 q = M.2 q := fun q hq => by rw [hM1]; exact va_up_ne _ _ hq
    obtain ⟨p1, p2, p3, ⟨p4, p5, p6, p7⟩, p8, p9, p10, p11, p12, p14, pt, pm⟩ := JX_p (M1 := M1) (P := fun q => q = A) hX (by rw [hM1]; exact Nat.le_refl _) (fun q _ hq => he q hq) (fun q e => by omega)
    have g1' : g1 M1 A ra rb R H R2 H2 hands h2 b1 b2 x1 dr := by
      obtain ⟨c0, ⟨c1, c2, c3⟩, c4, c5⟩ := hx
      exact ⟨⟨by rw [hM1]; exact va_up_self _ _ _, ⟨(he _ (by omega)).trans c1, (he _ (by omega)).trans c2, (he _ (by omega)).trans c3⟩, c4, c5⟩, (he _ (by omega)).trans hx2.1, (he _ (by omega)).trans hx2.2.1, (he _ (by omega)).trans hx2.2.2⟩
    have hX1 : JX g M1 A bs N scr ra rb nl nw R H R2 H2 T f f2 nc nle ni rf b1 b2 hands h2 (x1) dr n i lc wn ho next kept has nm lawF wrF pgs lad wad qs sg ln pl ss lg size lines longest letters cnt c ci := ⟨g1', p2 (fun q e => by omega), p3 (fun q e => by omega), p4, p5, p6, p7, p8 (fun q e => by omega), p9 (fun q e => by omega), p10 (fun q e => by omega), p11 (fun q e => by omega), p12 (fun q e => by omega), p14⟩
    refine hQ _ M1 (JM_m hX1 (pt (fun q e => by unfold tF; omega) ht) (pm S Y hm) (fun d Q hd hq => ?_))
    refine m_scribes (Nat.le_trans (by decide) hd) (pm S Y hm) (by rw [r7]; exact r7a) (by rw [r7]; exact r7b) a1 (fun y => (y ⟨z0, z1, by rw [r7]; exact z2⟩).elim) (fun y0 y1 y2 M2 hm2 => hq M2 _ _ nh hm2 ?_ h21)
    obtain ⟨s1, s2, s3, s4, s5, s6, ⟨s7, s71, s72, s73, s74, s75⟩, s8, s9⟩ := JR_k hR h5
    exact ⟨s1, s2, s3, s4, s5, s6, ⟨⟨va_up_self _ _ _, z0, z1⟩, s71, s72, s73, s74, s75⟩, s8, s9⟩
theorem j_noted {bo : Bool} (hd : 125 ≤ d) (hJ : J g A bs N scr k M) (h5 : k < 512) (a1 : i32 x1) (a2 : i32 x2) (hQ : ∀ v M1, JM g A bs N scr (k + 1) xX12_noted [.inl x1, .inl x2, .inl (sk_b bo)] v M1 → Q (some (.inl v)) M1) : sk_call g d ck sk xX11_noted [.inr (.inr (some A)), .inl x1, .inl x2, .inl (sk_b bo)] M Q := by
  obtain ⟨ra, rb, nl, nw, R, H, R2, H2, T, f, f2, nc, nle, ni, rf, b1, b2, hands, h2, sc, dr, n, i, lc, wn, ho, next, kept, has, nm, lawF, wrF, pgs, lad, wad, qs, sg, ln, pl, ss, lg, size, lines, longest, letters, cnt, c, ci, nh, S, Y, hX, ht, hm, hR, h21⟩ := hJ
  obtain ⟨⟨B0, B4⟩, Bru, ⟨Bl0, Bl1⟩, ⟨Bc0, Bc1⟩, ⟨E23, E27, E22⟩, E0, ⟨W0, W6⟩⟩ := jd_bounds hX hR
  obtain ⟨⟨hx, hx2⟩, G2, ⟨hsh, ⟨L0, L4⟩, W06, L9⟩, G4, G5, G6, ⟨hws, hwa⟩, ⟨hP, hL⟩, hh, ⟨hI, hIL⟩, hNo, hr, ⟨hst, hsb, hsk, hscr, hout, hA⟩⟩ := id hX
  obtain ⟨r1, ⟨r2, r2'⟩, r3, ⟨r4, r4'⟩, ⟨r5, r5'⟩, ⟨r6, r61, r62, r63⟩, ⟨⟨r7, r7a, r7b⟩, r71, r72, r73, r74, r75⟩, r8, r9⟩ := id hR
  obtain ⟨⟨Y0, Y1', Y2⟩, -⟩ := id r1
  obtain ⟨q1, q2, ⟨q3, q4, q5⟩, q6, q7, q8, hk⟩ := id r3
  have rX := jd_rx hX hR
  have hwl := jd_wl hR
  have hH := jd_xH hR
  have hb01 : sk_b bo = 0 ∨ sk_b bo = 1 := by cases bo <;> simp [sk_b]
  have s45 : S 45 = nm := r2.1
  have hcy : (0 ≤ x1 ∧ x1 < R 0 * R 1 ∧ 0 ≤ x2 ∧ x2 < 26 ∧ nm < 10) ↔ (0 ≤ x1 ∧ x1 < S 23 ∧ 0 ≤ x2 ∧ x2 < 26 ∧ S 45 < 10) := by rw [E23, s45]
  have b45 : 0 ≤ S 45 ∧ S 45 ≤ 10 := by rw [s45]; exact ⟨r2'.1, r2'.2.1⟩
  refine x_noted (Nat.le_trans (by decide) hd) hx hNo r2'.1 r2'.2.1 a1 a2 (fun z => hQ _ M (JM_q hX ht hm hR h5 h21 (fun d Q hd hq => ?_))) (fun z M1 fr hNo' => ?_)
  · exact m_noted (Nat.le_trans (by decide) hd) hm rX.2.1 rX.2.2.1 b45.1 b45.2 a1 a2 hb01 (fun _ => hq M S Y hm (fun _ _ => rfl) (fun _ _ => rfl) h21) (fun y => (z (hcy.2 y)).elim)
  · obtain ⟨p1, p2, p3, ⟨p4, p5, p6, p7⟩, p8, p9, p10, p11, p12, p14, pt, pm⟩ := JX_p (M1 := M1) (P := fun q => A + 37 ≤ q ∧ q ≤ A + 40) hX (by rw [fr.1]; exact Nat.le_refl _) (fun q _ hq => fr.2 q hq) (fun q e => by omega)
    have hX1 : JX g M1 A bs N scr ra rb nl nw R H R2 H2 T f f2 (sk_up nc nm x1) (sk_up nle nm x2) (sk_up ni nm (sk_b bo)) rf b1 b2 hands h2 sc dr n i lc wn ho next kept has (nm + 1) lawF wrF pgs lad wad qs sg ln pl ss lg size lines longest letters cnt c ci := ⟨p1 (fun q e => by omega), p2 (fun q e => by omega), p3 (fun q e => by omega), p4, p5, p6, p7, p8 (fun q e => by omega), p9 (fun q e => by omega), p10 (fun q e => by omega), hNo', p12 (fun q e => by omega), p14⟩
    refine hQ _ M1 (JM_m hX1 (pt (fun q e => by unfold tF; omega) ht) (pm S Y hm) (fun d Q hd hq => ?_))
    refine m_noted (Nat.le_trans (by decide) hd) (pm S Y hm) rX.2.1 rX.2.2.1 b45.1 b45.2 a1 a2 hb01 (fun y => (y (hcy.1 z)).elim) (fun _ M2 hm2 => ?_)
    rw [s45] at hm2 ⊢
    refine hq M2 _ _ nh hm2 ?_ h21
    obtain ⟨s1, ⟨s2, s2'⟩, s3, s4, s5, s6, s7, s8, s9⟩ := JR_k hR h5
    refine ⟨s1, ⟨⟨va_up_self _ _ _, fun j j0 j1 => ?_⟩, by have := s2'.1; omega, by omega, fun j j0 j1 => ?_⟩, s3, s4, s5, s6, s7, s8, fun l l0 l1 => ⟨mla_yw (Y := Y) (Y' := va_up (va_up (va_up Y 26 (sk_up (Y 26) nm x1)) 27 (sk_up (Y 27) nm x2)) 28 (sk_up (Y 28) nm (sk_b bo))) rfl rfl rfl rfl rfl rfl (s9 l l0 l1).1, (s9 l l0 l1).2⟩⟩
    · show sk_up (Y 26) nm x1 j = sk_up nc nm x1 j ∧ sk_up (Y 27) nm x2 j = sk_up nle nm x2 j ∧ sk_up (Y 28) nm (sk_b bo) j = sk_up ni nm (sk_b bo) j
      by_cases e : j = nm
      · subst e; simp only [sk_up_self]; exact ⟨trivial, trivial, trivial⟩
      · rw [sk_up_ne _ _ e, sk_up_ne _ _ e, sk_up_ne _ _ e, sk_up_ne _ _ e, sk_up_ne _ _ e, sk_up_ne _ _ e]
        exact r2.2 j j0 (by omega)
    · by_cases e : j = nm
      · subst e
        rw [sk_up_self, sk_up_self, sk_up_self]
        exact ⟨z.1, z.2.1, z.2.2.1, z.2.2.2.1, hb01⟩
      · rw [sk_up_ne _ _ e, sk_up_ne _ _ e, sk_up_ne _ _ e]
        exact s2'.2.2 j j0 (by omega)
theorem j_undo (hd : 125 ≤ d) (hJ : J g A bs N scr k M) (h5 : k < 512) (hQ : ∀ v M1, JM g A bs N scr (k + 1) xX12_undo [] v M1 → Q (some (.inl v)) M1) : sk_call g d ck sk xX11_undo [.inr (.inr (some A))] M Q := by
  obtain ⟨ra, rb, nl, nw, R, H, R2, H2, T, f, f2, nc, nle, ni, rf, b1, b2, hands, h2, sc, dr, n, i, lc, wn, ho, next, kept, has, nm, lawF, wrF, pgs, lad, wad, qs, sg, ln, pl, ss, lg, size, lines, longest, letters, cnt, c, ci, nh, S, Y, hX, ht, hm, hR, h21⟩ := hJ
  obtain ⟨⟨B0, B4⟩, Bru, ⟨Bl0, Bl1⟩, ⟨Bc0, Bc1⟩, ⟨E23, E27, E22⟩, E0, ⟨W0, W6⟩⟩ := jd_bounds hX hR
  obtain ⟨⟨hx, hx2⟩, G2, ⟨hsh, ⟨L0, L4⟩, W06, L9⟩, G4, G5, G6, ⟨hws, hwa⟩, ⟨hP, hL⟩, hh, ⟨hI, hIL⟩, hNo, hr, ⟨hst, hsb, hsk, hscr, hout, hA⟩⟩ := id hX
  obtain ⟨r1, ⟨r2, r2'⟩, r3, ⟨r4, r4'⟩, ⟨r5, r5'⟩, ⟨r6, r61, r62, r63⟩, ⟨⟨r7, r7a, r7b⟩, r71, r72, r73, r74, r75⟩, r8, r9⟩ := id hR
  obtain ⟨⟨Y0, Y1', Y2⟩, -⟩ := id r1
  obtain ⟨q1, q2, ⟨q3, q4, q5⟩, q6, q7, q8, hk⟩ := id r3
  have rX := jd_rx hX hR
  have hwl := jd_wl hR
  have hH := jd_xH hR
  obtain ⟨n0, n1, k0, k1, -⟩ := hh.2.1
  refine x_undo (Nat.le_trans (by decide) hd) hx hP hh (fun z => hQ _ M (JM_q hX ht hm hR h5 h21 (fun d Q hd hq => ?_))) (fun z M1 ly3 hs3 fr hpe hP' hh' => ?_)
  · exact m_undo hm (by rw [r4']; exact k0) (by rw [r4']; exact k1) (fun _ => hq M S Y hm (fun _ _ => rfl) (fun _ _ => rfl) h21) (fun y => by omega)
  · obtain ⟨u1, u2⟩ := hrl_undo n0 n1 k1 z r4
    have dl := (r4.1 0 (by omega) z).2.1
    rw [Int.sub_zero] at dl
    obtain ⟨p1, p2, p3, ⟨p4, p5, p6, p7⟩, p8, p9, p10, p11, p12, p14, pt, pm⟩ := JX_p (M1 := M1) (P := fun q => q = A + 30 ∨ q = A + 22 ∨ q = A + 23 ∨ q = A + 24) hX (by rw [fr.1]; exact Nat.le_refl _) (fun q _ hq => fr.2 q hq) (fun q e => by omega)
    generalize hcu : cnt ((next + 39) % 40) = cu at *
    have hX1 : JX g M1 A bs N scr ra rb nl nw R H R2 H2 T f f2 nc nle ni rf b1 b2 hands h2 sc dr n i lc wn ho ((next + 39) % 40) (kept - 1) has nm lawF wrF pgs lad wad qs sg ln pl ss lg size lines longest letters cnt ((ly3, hs3, cu.2.2)) ci := ⟨p1 (fun q e => by omega), p2 (fun q e => by omega), p3 (fun q e => by omega), p4, p5, p6, p7, ⟨hP', (fr.2 _ (by omega)).trans hL.1, (fr.2 _ (by omega)).trans hL.2⟩, hh', p10 (fun q e => by omega), p11 (fun q e => by omega), p12 (fun q e => by omega), p14⟩
    refine hQ _ M1 (JM_m hX1 (pt (fun q e => by unfold tF; omega) ht) (pm S Y hm) (fun d Q hd hq => ?_))
    refine m_undo (pm S Y hm) (by rw [r4']; exact k0) (by rw [r4']; exact k1) (fun y => by omega) (fun _ M2 fk hf hm2 => ?_)
    rw [r4'] at hf hm2 ⊢
    have hs : sn (R 0 * R 1) hands nh f (ly3, hs3, cu.2.2) fk := sn_p Bc0 (sn_c u1 hf) hpe rfl
    exact hq M2 _ _ nh hm2 (JR_act (c' := (ly3, hs3, cu.2.2)) hR h5 (fun j _ hj => va_up_ne _ _ hj) (fun j _ h18 h20 => va_up_ne _ _ h18) hs u2 (va_up_self _ _ _) (by simp only []; omega)) h21
theorem j_image (hd : 125 ≤ d) (hJ : J g A bs N scr k M) (h5 : k < 512) (hQ : ∀ v M1, JM g A bs N scr (k + 1) xX12_image [] v M1 → Q (some (.inl v)) M1) : sk_call g d ck sk xX11_image [.inr (.inr (some A))] M Q := by
  obtain ⟨ra, rb, nl, nw, R, H, R2, H2, T, f, f2, nc, nle, ni, rf, b1, b2, hands, h2, sc, dr, n, i, lc, wn, ho, next, kept, has, nm, lawF, wrF, pgs, lad, wad, qs, sg, ln, pl, ss, lg, size, lines, longest, letters, cnt, c, ci, nh, S, Y, hX, ht, hm, hR, h21⟩ := hJ
  obtain ⟨⟨B0, B4⟩, Bru, ⟨Bl0, Bl1⟩, ⟨Bc0, Bc1⟩, ⟨E23, E27, E22⟩, E0, ⟨W0, W6⟩⟩ := jd_bounds hX hR
  obtain ⟨⟨hx, hx2⟩, G2, ⟨hsh, ⟨L0, L4⟩, W06, L9⟩, G4, G5, G6, ⟨hws, hwa⟩, ⟨hP, hL⟩, hh, ⟨hI, hIL⟩, hNo, hr, ⟨hst, hsb, hsk, hscr, hout, hA⟩⟩ := id hX
  obtain ⟨r1, ⟨r2, r2'⟩, r3, ⟨r4, r4'⟩, ⟨r5, r5'⟩, ⟨r6, r61, r62, r63⟩, ⟨⟨r7, r7a, r7b⟩, r71, r72, r73, r74, r75⟩, r8, r9⟩ := id hR
  obtain ⟨⟨Y0, Y1', Y2⟩, -⟩ := id r1
  obtain ⟨q1, q2, ⟨q3, q4, q5⟩, q6, q7, q8, hk⟩ := id r3
  have rX := jd_rx hX hR
  have hwl := jd_wl hR
  have hH := jd_xH hR
  refine x_image (Nat.le_trans (by decide) hd) hx hP hh hI hL hIL (fun z => hQ _ M (JM_q hX ht hm hR h5 h21 (fun d Q hd hq => ?_))) (fun z M1 ly3 hs3 f3 fr hpe hf3 hP' hL' hh' => ?_)
  · exact m_image hm rX.2.1 rX.2.2.1 (fun _ => hq M S Y hm (fun _ _ => rfl) (fun _ _ => rfl) h21) (fun y => by have := rX.2.1; omega)
  · obtain ⟨p1, p2, p3, ⟨p4, p5, p6, p7⟩, p8, p9, p10, p11, p12, p14, pt, pm⟩ := JX_p (M1 := M1) (P := fun q => q = A + 30 ∨ (A + 32 ≤ q ∧ q ≤ A + 36)) hX (by rw [fr.1]; exact Nat.le_refl _) (fun q _ hq => fr.2 q hq) (fun q e => by omega)
    have hX1 : JX g M1 A bs N scr ra rb nl nw R H R2 H2 T f (f3) nc nle ni rf b1 b2 hands h2 sc dr n i lc wn ho next kept (1) nm lawF wrF pgs lad wad qs sg ln pl ss lg size lines longest letters cnt c ((ly3, hs3, c.2.2)) := ⟨p1 (fun q e => by omega), p2 (fun q e => by omega), p3 (fun q e => by omega), p4, p5, p6, p7, p8 (fun q e => by omega), hh', ⟨hP', hL'⟩, p11 (fun q e => by omega), p12 (fun q e => by omega), p14⟩
    refine hQ _ M1 (JM_m hX1 (pt (fun q e => by unfold tF; omega) ht) (pm S Y hm) (fun d Q hd hq => ?_))
    refine m_image (pm S Y hm) rX.2.1 rX.2.2.1 (fun y => by omega) (fun _ M2 fk hf hm2 => ?_)
    rw [q4]
    refine hq M2 _ _ nh hm2 ?_ h21
    obtain ⟨s1, s2, s3, s4, s5, s6, s7, s8, s9⟩ := JR_k hR h5
    exact ⟨s1, s2, s3, s4, ⟨va_up_self _ _ _, fun _ => ⟨sn_p Bc0 (sn_c (sn_f' r3 hf3) hf) hpe rfl, s6.2.1⟩⟩, s6, s7, s8, fun l l0 l1 => ⟨mla_yw (Y := Y) (Y' := va_up Y 30 fk) rfl rfl rfl rfl rfl rfl (s9 l l0 l1).1, (s9 l l0 l1).2⟩⟩
theorem j_back (hd : 125 ≤ d) (hJ : J g A bs N scr k M) (h5 : k < 512) (hQ : ∀ v M1, JM g A bs N scr (k + 1) xX12_back [] v M1 → Q (some (.inl v)) M1) : sk_call g d ck sk xX11_back [.inr (.inr (some A))] M Q := by
  obtain ⟨ra, rb, nl, nw, R, H, R2, H2, T, f, f2, nc, nle, ni, rf, b1, b2, hands, h2, sc, dr, n, i, lc, wn, ho, next, kept, has, nm, lawF, wrF, pgs, lad, wad, qs, sg, ln, pl, ss, lg, size, lines, longest, letters, cnt, c, ci, nh, S, Y, hX, ht, hm, hR, h21⟩ := hJ
  obtain ⟨⟨B0, B4⟩, Bru, ⟨Bl0, Bl1⟩, ⟨Bc0, Bc1⟩, ⟨E23, E27, E22⟩, E0, ⟨W0, W6⟩⟩ := jd_bounds hX hR
  obtain ⟨⟨hx, hx2⟩, G2, ⟨hsh, ⟨L0, L4⟩, W06, L9⟩, G4, G5, G6, ⟨hws, hwa⟩, ⟨hP, hL⟩, hh, ⟨hI, hIL⟩, hNo, hr, ⟨hst, hsb, hsk, hscr, hout, hA⟩⟩ := id hX
  obtain ⟨r1, ⟨r2, r2'⟩, r3, ⟨r4, r4'⟩, ⟨r5, r5'⟩, ⟨r6, r61, r62, r63⟩, ⟨⟨r7, r7a, r7b⟩, r71, r72, r73, r74, r75⟩, r8, r9⟩ := id hR
  obtain ⟨⟨Y0, Y1', Y2⟩, -⟩ := id r1
  obtain ⟨q1, q2, ⟨q3, q4, q5⟩, q6, q7, q8, hk⟩ := id r3
  have rX := jd_rx hX hR
  have hwl := jd_wl hR
  have hH := jd_xH hR
  have h01 : S 48 = 0 ∨ S 48 = 1 := by rw [r5]; exact hh.2.1.2.2.2.2
  refine x_back (Nat.le_trans (by decide) hd) hx hP hh hI hL hIL (fun z => hQ _ M (JM_q hX ht hm hR h5 h21 (fun d Q hd hq => ?_))) (fun z M1 ly3 hs3 f3 fr hpe hf3 hP' hL' hh' => ?_)
  · exact m_back hm h01 (fun _ => hq M S Y hm (fun _ _ => rfl) (fun _ _ => rfl) h21) (fun y => by omega)
  · obtain ⟨p1, p2, p3, ⟨p4, p5, p6, p7⟩, p8, p9, p10, p11, p12, p14, pt, pm⟩ := JX_p (M1 := M1) (P := fun q => q = A + 30 ∨ (A + 22 ≤ q ∧ q ≤ A + 24) ∨ q = A + 29) hX (by rw [fr.1]; exact Nat.le_refl _) (fun q _ hq => fr.2 q hq) (fun q e => by omega)
    subst z
    obtain ⟨ri, ri2⟩ := r5' rfl
    have hX1 : JX g M1 A bs N scr ra rb nl nw R H R2 H2 T (f3) f2 nc nle ni rf b1 b2 hands h2 sc dr n i lc wn ho next (0) (1) nm lawF wrF pgs lad wad qs sg ln pl ss lg size lines longest letters cnt ((ly3, hs3, ci.2.2)) ci := ⟨p1 (fun q e => by omega), p2 (fun q e => by omega), p3 (fun q e => by omega), p4, p5, p6, p7, ⟨hP', hL'⟩, hh', p10 (fun q e => by omega), p11 (fun q e => by omega), p12 (fun q e => by omega), p14⟩
    refine hQ _ M1 (JM_m hX1 (pt (fun q e => by unfold tF; omega) ht) (pm S Y hm) (fun d Q hd hq => ?_))
    refine m_back (pm S Y hm) h01 (fun y => by omega) (fun _ M2 fk hf hm2 => ?_)
    have e7 : fk 761 = ci.2.2.2.1 := (hf 761 (by omega) (by omega)).trans ri.2.2.1.2.1
    rw [e7]
    have hs : sn (R 0 * R 1) hands nh f3 (ly3, hs3, ci.2.2) fk := sn_p Bc0 (sn_c (sn_f' ri hf3) hf) hpe rfl
    exact hq M2 _ _ nh hm2 (JR_act (c' := (ly3, hs3, ci.2.2)) hR h5 (fun j _ hj => va_up_ne _ _ hj) (fun j _ h18 h20 => va_up_ne _ _ h18) hs hrl_0 (va_up_self _ _ _) (by simp only []; omega)) h21
theorem JR_n {T' : Int → Int} {n' : Int} {S' : Nat → Int} {Y' : Nat → Int → Int} (hR : JR k ra rb nl nw R H R2 H2 T f f2 nc nle ni rf b1 b2 hands h2 sc dr n i lc wn ho next kept has nm lawF wrF pgs lad wad qs sg ln pl ss lg size lines longest letters cnt c ci nh S Y) (h5 : k < 512) (hS : ∀ j, j ≠ 2 → S' j = S j) (hY : ∀ k, k ≠ 1 → Y' k = Y k) (e2 : S' 2 = n') (e1 : ta T' (Y' 1) n') : JR (k + 1) ra rb nl nw R H R2 H2 (T') f f2 nc nle ni rf b1 b2 hands h2 sc dr (n') i lc wn ho next kept has nm lawF wrF pgs lad wad qs sg ln pl ss lg size lines longest letters cnt c ci nh (S') (Y') := by
  obtain ⟨r1, ⟨r2, r2'⟩, r3, ⟨r4, r4'⟩, ⟨r5, r5'⟩, ⟨r6, r61, r62, r63⟩, ⟨r7, r71, r72, r73, r74, r75⟩, r8, r9⟩ := JR_k hR h5
  refine ⟨bw_e r1 (hS _ (by decide)) (hS _ (by decide)) (hY _ (by decide)) (hY _ (by decide)) (hY _ (by decide)) (hY _ (by decide)), ⟨bn_e r2 (hS _ (by decide)) (hY _ (by decide)) (hY _ (by decide)) (hY _ (by decide)), r2'⟩, by rw [hY 18 (by decide)]; exact r3, ⟨by rw [hY 20 (by decide)]; exact r4, (hS _ (by decide)).trans r4'⟩, ⟨(hS _ (by decide)).trans r5, by rw [hY 30 (by decide)]; exact r5'⟩, ⟨by rw [hY 19 (by decide)]; exact r6, r61, r62, r63⟩, ⟨⟨(hS _ (by decide)).trans r7.1, r7.2⟩, (hS _ (by decide)).trans r71, (hS _ (by decide)).trans r72, (hS _ (by decide)).trans r73, e2, e1⟩, j8_e r8 (hY _ (by decide)), fun l l0 l1 => ⟨mla_yw (hY _ (by decide)) (hY _ (by decide)) (hY _ (by decide)) (hY _ (by decide)) (hY _ (by decide)) (hY _ (by decide)) (r9 l l0 l1).1, (r9 l l0 l1).2⟩⟩
theorem j_end (hd : 125 ≤ d) (hJ : J g A bs N scr k M) (h5 : k < 512) (a1 : i32 x1) (hQ : ∀ v M1, JM g A bs N scr (k + 1) xX12_end [.inl x1] v M1 → Q (some (.inl v)) M1) : sk_call g d ck sk xX11_end [.inr (.inr (some A)), .inl x1] M Q := by
  obtain ⟨ra, rb, nl, nw, R, H, R2, H2, T, f, f2, nc, nle, ni, rf, b1, b2, hands, h2, sc, dr, n, i, lc, wn, ho, next, kept, has, nm, lawF, wrF, pgs, lad, wad, qs, sg, ln, pl, ss, lg, size, lines, longest, letters, cnt, c, ci, nh, S, Y, hX, ht, hm, hR, h21⟩ := hJ
  obtain ⟨⟨B0, B4⟩, Bru, ⟨Bl0, Bl1⟩, ⟨Bc0, Bc1⟩, ⟨E23, E27, E22⟩, E0, ⟨W0, W6⟩⟩ := jd_bounds hX hR
  obtain ⟨⟨hx, hx2⟩, G2, ⟨hsh, ⟨L0, L4⟩, W06, L9⟩, G4, G5, G6, ⟨hws, hwa⟩, ⟨hP, hL⟩, hh, ⟨hI, hIL⟩, hNo, hr, ⟨hst, hsb, hsk, hscr, hout, hA⟩⟩ := id hX
  obtain ⟨r1, ⟨r2, r2'⟩, r3, ⟨r4, r4'⟩, ⟨r5, r5'⟩, ⟨r6, r61, r62, r63⟩, ⟨⟨r7, r7a, r7b⟩, r71, r72, r73, r74, r75⟩, r8, r9⟩ := id hR
  obtain ⟨⟨Y0, Y1', Y2⟩, -⟩ := id r1
  obtain ⟨q1, q2, ⟨q3, q4, q5⟩, q6, q7, q8, hk⟩ := id r3
  have rX := jd_rx hX hR
  have hwl := jd_wl hR
  have hH := jd_xH hR
  obtain ⟨hTp, hTo⟩ := id G2
  have s2 : 0 ≤ S 2 ∧ S 2 ≤ 240 := by rw [r74]; exact ⟨hTo.1, hTo.2.1⟩
  refine x_end (Nat.le_trans (by decide) hd) hx hTp hTo.1 hTo.2.1 a1 (fun z => hQ _ M (JM_q hX ht hm hR h5 h21 (fun d Q hd hq => ?_))) (fun z M1 fr hTp' => ?_)
  · exact c_mEnd hm a1.1 a1.2 s2.1 s2.2 (fun y0 y1 => (z ⟨y0, by rw [← r74]; exact y1⟩).elim) (fun _ => hq M S Y hm (fun _ _ => rfl) (fun _ _ => rfl) h21)
  · obtain ⟨p1, p2, p3, ⟨p4, p5, p6, p7⟩, p8, p9, p10, p11, p12, p14, pt, pm⟩ := JX_p (M1 := M1) (P := fun q => q = A + 1) hX (by rw [fr.1]; exact Nat.le_refl _) (fun q _ hq => fr.2 q hq) (fun q e => by omega)
    have hX1 : JX g M1 A bs N scr ra rb nl nw R H R2 H2 T f f2 nc nle ni rf b1 b2 hands h2 sc dr (x1) i lc wn ho next kept has nm lawF wrF pgs lad wad qs sg ln pl ss lg size lines longest letters cnt c ci := ⟨p1 (fun q e => by omega), ⟨hTp', z.1, by have := hTo.2.1; omega, fun j j0 j1 => hTo.2.2 j j0 (by omega)⟩, p3 (fun q e => by omega), p4, p5, p6, p7, p8 (fun q e => by omega), p9 (fun q e => by omega), p10 (fun q e => by omega), p11 (fun q e => by omega), p12 (fun q e => by omega), p14⟩
    refine hQ _ M1 (JM_m hX1 (pt (fun q e => by unfold tF; omega) ht) (pm S Y hm) (fun d Q hd hq => ?_))
    exact c_mEnd (pm S Y hm) a1.1 a1.2 s2.1 s2.2 (fun y0 y1 M2 hm2 => hq M2 _ _ nh hm2 (JR_n hR h5 (fun j hj => va_up_ne _ _ hj) (fun _ _ => rfl) (va_up_self _ _ _) (fun j hj => r75 j (by omega))) h21) (fun y => (y ⟨z.1, by rw [r74]; exact z.2⟩).elim)
theorem j_feed (hd : 125 ≤ d) (hJ : J g A bs N scr k M) (h5 : k < 512) (hQ : ∀ v M1, JM g A bs N scr (k + 1) xX12_feed [.inl x1, .inl x2, .inl x3, .inl x4, .inl x5] v M1 → Q (some (.inl v)) M1) : sk_call g d ck sk xX11_feed [.inr (.inr (some A)), .inl x1, .inl x2, .inl x3, .inl x4, .inl x5] M Q := by
  obtain ⟨ra, rb, nl, nw, R, H, R2, H2, T, f, f2, nc, nle, ni, rf, b1, b2, hands, h2, sc, dr, n, i, lc, wn, ho, next, kept, has, nm, lawF, wrF, pgs, lad, wad, qs, sg, ln, pl, ss, lg, size, lines, longest, letters, cnt, c, ci, nh, S, Y, hX, ht, hm, hR, h21⟩ := hJ
  obtain ⟨⟨B0, B4⟩, Bru, ⟨Bl0, Bl1⟩, ⟨Bc0, Bc1⟩, ⟨E23, E27, E22⟩, E0, ⟨W0, W6⟩⟩ := jd_bounds hX hR
  obtain ⟨⟨hx, hx2⟩, G2, ⟨hsh, ⟨L0, L4⟩, W06, L9⟩, G4, G5, G6, ⟨hws, hwa⟩, ⟨hP, hL⟩, hh, ⟨hI, hIL⟩, hNo, hr, ⟨hst, hsb, hsk, hscr, hout, hA⟩⟩ := id hX
  obtain ⟨r1, ⟨r2, r2'⟩, r3, ⟨r4, r4'⟩, ⟨r5, r5'⟩, ⟨r6, r61, r62, r63⟩, ⟨⟨r7, r7a, r7b⟩, r71, r72, r73, r74, r75⟩, r8, r9⟩ := id hR
  obtain ⟨⟨Y0, Y1', Y2⟩, -⟩ := id r1
  obtain ⟨q1, q2, ⟨q3, q4, q5⟩, q6, q7, q8, hk⟩ := id r3
  have rX := jd_rx hX hR
  have hwl := jd_wl hR
  have hH := jd_xH hR
  obtain ⟨hTp, hTo⟩ := id G2
  have s2 : 0 ≤ S 2 ∧ S 2 ≤ 240 := by rw [r74]; exact ⟨hTo.1, hTo.2.1⟩
  obtain ⟨fy, fn⟩ := feed_eq (x1 := x1) (x2 := x2) (x3 := x3) (x4 := x4) (x5 := x5) hTo r75
  have gx : ∀ (M1 : sk_M) (T' : Int → Int) (n' : Int), sk_fr1 M M1 (fun q => q = A + 1 ∨ q = A + 2) → tp_at M1 (A + 1) (A + 2) T' n' i → tp_ok T' n' → JX g M1 A bs N scr ra rb nl nw R H R2 H2 (T') f f2 nc nle ni rf b1 b2 hands h2 sc dr (n') i lc wn ho next kept has nm lawF wrF pgs lad wad qs sg ln pl ss lg size lines longest letters cnt c ci ∧ tm M1 A ∧ md M1 M1 (A + 53) S Y := fun M1 T' n' fr ht1 ht2 => by
    obtain ⟨p1, p2, p3, ⟨p4, p5, p6, p7⟩, p8, p9, p10, p11, p12, p14, pt, pm⟩ := JX_p (M1 := M1) (P := fun q => q = A + 1 ∨ q = A + 2) hX (by rw [fr.1]; exact Nat.le_refl _) (fun q _ hq => fr.2 q hq) (fun q e => by omega)
    exact ⟨⟨p1 (fun q e => by omega), ⟨ht1, ht2⟩, p3 (fun q e => by omega), p4, p5, p6, p7, p8 (fun q e => by omega), p9 (fun q e => by omega), p10 (fun q e => by omega), p11 (fun q e => by omega), p12 (fun q e => by omega), p14⟩, pt (fun q e => by unfold tF; omega) ht, pm S Y hm⟩
  refine x_feed (Nat.le_trans (by decide) hd) hx hTp hTo.1 hTo.2.1 (fun z M1 fr hTp' => ?_) (fun z M1 fr hTp' => ?_)
  · obtain ⟨f1, f2, f3, f4⟩ := fy z
    obtain ⟨hX1, ht1, hm1⟩ := gx M1 _ _ fr hTp' f4
    refine hQ _ M1 (JM_m hX1 ht1 hm1 (fun d Q hd hq => ?_))
    refine c_mFeed (Nat.le_trans (by decide) hd) hm1 s2.1 s2.2 (fun y => by rw [r74] at y; omega) (fun y M2 hm2 => ?_)
    rw [r74] at hm2 ⊢
    rw [f2] at hq f3
    refine hq M2 _ _ nh hm2 ?_ h21
    exact JR_n hR h5 (fun j hj => va_up_ne _ _ hj) (fun j hj => va_up_ne _ _ hj) (va_up_self _ _ _) (by rw [va_up_self]; exact f3)
  · obtain ⟨f1, f2, f3⟩ := fn z
    obtain ⟨hX1, ht1, hm1⟩ := gx M1 _ _ fr hTp' f3
    refine hQ _ M1 (JM_m hX1 ht1 hm1 (fun d Q hd hq => ?_))
    refine c_mFeed (Nat.le_trans (by decide) hd) hm1 s2.1 s2.2 (fun y => hq M1 _ _ nh hm1 (JR_n hR h5 (fun j hj => rfl) (fun j hj => rfl) r74 f2) h21) (fun y => by rw [r74] at y; omega)
end JACTC
