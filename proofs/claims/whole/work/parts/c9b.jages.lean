/-! ===== both sides at once: ages, years by draws ===== -/
section JAGES
variable {g : sk_G} {d ck sk : Nat} {M M1 : sk_M} {Q : sk_P} {A bs N : Nat} {scr : Int → Int} {k : Int} {x1 x2 x3 x4 : Int} {ra rb nl nw : Nat} {R H R2 H2 T f f2 nc nle ni rf : Int → Int} {b1 b2 : Bool} {hands h2 sc dr n i lc wn ho next kept has nm : Int} {lawF wrF pgs : Int → Option Nat} {lad wad : Int → Nat} {qs : Int → List lq_C} {sg ln pl ss lg : Int → Int → Int} {size lines longest letters : Int → Int} {cnt : Int → hC} {c ci : hC} {nh : Int} {S : Nat → Int} {Y : Nat → Int → Int}
theorem jd_la (hX : JX g M A bs N scr ra rb nl nw R H R2 H2 T f f2 nc nle ni rf b1 b2 hands h2 sc dr n i lc wn ho next kept has nm lawF wrF pgs lad wad qs sg ln pl ss lg size lines longest letters cnt c ci) : ∃ la, lh M A la (jhold ho qs) ∧ lhA A la ∧ (jhold ho qs ≠ none → la = lad ho ∧ la + 3 < M.1) := by
  obtain ⟨hlh, hla⟩ := jd_lh hX
  by_cases e : jhold ho qs = none
  · refine ⟨A + 12, ?_, Or.inl rfl, fun z => (z e).elim⟩
    rw [e] at hlh ⊢
    exact hlh
  · exact ⟨lad ho, hlh, (hla e).1, fun _ => ⟨rfl, (hla e).2⟩⟩
theorem lh_lad {la : Nat} (h : lh M A la (jhold ho qs)) (e : jhold ho qs ≠ none → la = lad ho) : lh M A (lad ho) (jhold ho qs) := by
  by_cases z : jhold ho qs = none
  · rw [z] at h ⊢
    exact h
  · rw [← e z]; exact h
/-- behind years -/
theorem JX_yr {pgs' : Int → Option Nat} {cnt' : Int → hC} {next' kept' dr' : Int} {c' : hC} {f' : Int → Int} {n' la : Nat} {F : Nat → Prop} (hX : JX g M A bs N scr ra rb nl nw R H R2 H2 T f f2 nc nle ni rf b1 b2 hands h2 sc dr n i lc wn ho next kept has nm lawF wrF pgs lad wad qs sg ln pl ss lg size lines longest letters cnt c ci) (ht : tm M A) (hk : kf M M1 A pgs pgs' n' F) (hF : ∀ q, F q → q = A ∨ yrF (jhold ho qs) la A q) (hla : lhA A la) (hla2 : jhold ho qs ≠ none → la = lad ho) (hl1 : lh M1 A la (jhold ho qs)) (hx1 : xc M1 A ra rb R H hands (sk_b b1) sc dr') (hP : pg_at M1 (A + 22) (A + 23) (A + 24) c'.1 c'.2.1 c'.2.2.1 c'.2.2.2.1 c'.2.2.2.2.1 c'.2.2.2.2.2) (hL : lo_at M1 (A + 28) (A + 29) f') (hh' : hg M1 A pgs' cnt' next' kept' has) : JX g M1 A bs N scr ra rb nl nw R H R2 H2 T (f') f2 nc nle ni rf b1 b2 hands h2 sc (dr') n i lc wn ho (next') (kept') has nm lawF wrF (pgs') lad wad qs sg ln pl ss lg size lines longest letters (cnt') (c') ci ∧ tm M1 A ∧ ∀ S Y, md M M (A + 53) S Y → md M1 M1 (A + 53) S Y := by
  have hw := JX_w (M1 := M1) hX hk.1.1 (fun q q0 hn => hk.2.1 q q0 (fun e => hn (Or.inr (Or.inr (Or.inr (Or.inl e))))) (fun e => hn (Or.inr (Or.inr (Or.inr (Or.inr (Or.inl e)))))) (fun j b j0 j1 jb => by
    by_cases z : b ≤ q ∧ q ≤ b + 2
    · exact (hn (Or.inr (Or.inr (Or.inr (Or.inr (Or.inr (Or.inl ⟨j, b, j0, j1, jb, z.1, z.2⟩))))))).elim
    · omega) (fun e => hn (by
    rcases hF q e with e | e | e | e | e | e
    · exact Or.inl e
    · exact Or.inr (Or.inl (by omega))
    · exact Or.inr (Or.inr (Or.inl e))
    · exact Or.inr (Or.inl (by omega))
    · exact Or.inr (Or.inl (by omega))
    · have := hla2 e.1
      subst this
      exact Or.inr (Or.inr (Or.inr (Or.inr (Or.inr (Or.inr e)))))))) (lh_lad hl1 hla2)
  have hA := hX.2.2.2.2.2.2.2.2.2.2.2.2.2.2.2.2.2
  have h09 := hX.2.2.2.2.2.2.2.2.1
  have hx2 := hX.1.2
  have hrr := hX.1.1.2.2.1
  have fy : ∀ q, q < A + 85 → q ≠ A → ¬ (A + 12 ≤ q ∧ q ≤ A + 15) → ¬ (A + 22 ≤ q ∧ q ≤ A + 24) → q ≠ A + 29 → q ≠ A + 30 → q ≠ A + 31 → M1.2 q = M.2 q := fun q z0 z1 z2 z3 z4 z5 z6 => kf_at hk h09 hA z0 z5 z6 (fun e => by
    rcases hF q e with e | e | e | e | e | e
    · omega
    · omega
    · omega
    · omega
    · omega
    · have := hla
      have e2 := e.2
      unfold lhA at this
      omega)
  obtain ⟨p2, p3, ⟨p4, p5, p6, p7⟩, p10, p11, p12, p14, pm, fx⟩ := hw
  refine ⟨⟨⟨hx1, (fy _ (by omega) (by omega) (by omega) (by omega) (by omega) (by omega) (by omega)).trans hx2.1, (fy _ (by omega) (by omega) (by omega) (by omega) (by omega) (by omega) (by omega)).trans hx2.2.1, (fy _ (by omega) (by omega) (by omega) (by omega) (by omega) (by omega) (by omega)).trans hx2.2.2⟩, p2, p3, p4, p5, p6, p7, ⟨hP, hL⟩, hh', p10, p11, p12, p14⟩, tm_e ht (fun q hq => fy q (by omega) (by omega) (by omega) (by omega) (by omega) (by omega) (by omega)), pm⟩
theorem j_ages (hd : 125 ≤ d) (hck : 90 ≤ ck) (hsk' : 8580 ≤ sk) (hJ : J g A bs N scr k M) (h5 : k < 512) (a1 : i32 x1) (hQ : ∀ v M1, JM g A bs N scr (k + 1) xX12_ages [.inl x1] v M1 → Q (some (.inl v)) M1) : sk_call g d ck sk xX11_ages [.inr (.inr (some A)), .inl x1] M Q := by
  obtain ⟨ra, rb, nl, nw, R, H, R2, H2, T, f, f2, nc, nle, ni, rf, b1, b2, hands, h2, sc, dr, n, i, lc, wn, ho, next, kept, has, nm, lawF, wrF, pgs, lad, wad, qs, sg, ln, pl, ss, lg, size, lines, longest, letters, cnt, c, ci, nh, S, Y, hX, ht, hm, hR, h21⟩ := hJ
  obtain ⟨⟨B0, B4⟩, Bru, ⟨Bl0, Bl1⟩, ⟨Bc0, Bc1⟩, ⟨E23, E27, E22⟩, E0, ⟨W0, W6⟩⟩ := jd_bounds hX hR
  obtain ⟨⟨hx, hx2⟩, G2, ⟨hsh, ⟨L0, L4⟩, W06, L9⟩, G4, G5, G6, ⟨hws, hwa⟩, ⟨hP, hL⟩, hh, ⟨hI, hIL⟩, hNo, hr, ⟨hst, hsb, hsk, hscr, hout, hA⟩⟩ := id hX
  obtain ⟨r1, ⟨r2, r2'⟩, r3, ⟨r4, r4'⟩, ⟨r5, r5'⟩, ⟨r6, r61, r62, r63⟩, ⟨⟨r7, r7a, r7b⟩, r71, r72, r73, r74, r75⟩, r8, r9⟩ := id hR
  obtain ⟨⟨Y0, Y1', Y2⟩, -⟩ := id r1
  obtain ⟨q1, q2, ⟨q3, q4, q5⟩, q6, q7, q8, hk⟩ := id r3
  have rX := jd_rx hX hR
  have hwl := jd_wl hR
  have hH := jd_xH hR
  obtain ⟨hrb, hro⟩ := jd_rfb hR
  obtain ⟨la, hlh, hla1, hla2⟩ := jd_la hX
  obtain ⟨yX, wX⟩ := jd_yx hX hR
  have yb : 0 ≤ c.2.2.2.1 ∧ c.2.2.2.1 ≤ 999 := by rw [← q4]; exact ⟨q6.2.2.1, q6.2.2.2.1⟩
  have lb' : 0 ≤ c.2.2.2.2.2 ∧ c.2.2.2.2.2 ≤ 60 := by rw [← q5]; exact q6.2.2.2.2
  have k33 : 0 ≤ S 33 ∧ S 33 ≤ 40 := by rw [r4']; exact ⟨hh.2.1.2.2.1, hh.2.1.2.2.2.1⟩
  have e : x_aw hands c.2.2.2.1 x1 = mo_aw S Y x1 := by
    unfold x_aw mo_aw
    rw [q4]
    exact ite_c2 (by have := rX.2.1; omega) (fun _ => rfl) (fun _ => rfl)
  refine x_ages (hold := jhold ho qs) (la := la) (Nat.le_trans (by decide) hd) hck hsk' hA hx hH.2.1 hH.1 hlh hla1 (fun z => (hla2 z).2) hP hk hL hh hr hro yb.1 yb.2 (by omega) (by omega) lb'.1 lb'.2 a1 (fun z0 z1 z2 => hQ _ _ (JM_rf hX ht hm hR h5 h21 z1 z2 (fun d Q M1 hd hm1 hq => ?_))) (fun z M' pgs' dr' cnt' next' kept' ly' hs' ye' lo' ll' f' hxy hkf hlh' hP' hk' hL' hh' => ?_)
  · exact m_ages (Nat.le_trans (by decide) hd) hm1 yX hrb k33.1 k33.2 wX a1 (fun _ _ _ M2 hm2 => hq M2 (by rw [e]; exact hm2)) (fun z => (z0 (by rw [e]; exact z)).elim)
  · have zb : 1 ≤ x1 ∧ x1 ≤ 30 ∧ c.2.2.2.1 + x1 ≤ 999 := by
      unfold x_aw at z
      split at z
      · omega
      · split at z
        · omega
        · split at z
          · omega
          · omega
    have fA : ∀ q, A ≤ q → q ≤ A + 8 → M'.2 q = M.2 q := fun q z0 z1 => kf_at hkf hh hA (by omega) (by omega) (by omega) (fun e => by
      rcases e with e | e | e | e | e
      · omega
      · omega
      · omega
      · omega
      · have := hla1
        have e2 := e.2
        unfold lhA at this
        omega)
    obtain ⟨hX1, t1, m1⟩ := JX_yr (c' := (ly', hs', c.2.2.1, ye', lo', ll')) (f' := f') hX ht hkf (fun q e => Or.inr e) hla1 (fun z => (hla2 z).1) hlh' (xc_k hx fA) hP' hL' hh'
    refine hQ _ M' (JM_m hX1 t1 (m1 S Y hm) (fun d Q hd hq => ?_))
    refine m_ages (Nat.le_trans (by decide) hd) (m1 S Y hm) yX hrb k33.1 k33.2 wX a1 (fun y => (y (by rw [← e]; exact z)).elim) (fun z' M2 n' y' w' lt st hay hm2 => ?_)
    rw [r4'] at hay
    unfold mo_st at hay
    rw [E23, E22] at hay
    have ye := years_eq (hold := jhold ho qs) (H := H) (R := R) (Hd := Y 14) (R' := Y 13) (cells := R 0 * R 1) (hands := hands) (nh := nh) (co := c.2.2.1) (pre := fun s => s) (prem := fun x w => (x, w)) rfl Bc0 Bc1 B0 B4 hH.1 (fun j j0 j1 => (r8.2.2.1 j j0 j1).1) Y0 Y2 (fun dr ly hs w hp hw hpk => ⟨hpk, rfl, hp, hw, fun _ _ => rfl⟩) x1.toNat dr cnt next kept c.1 c.2.1 c.2.2.2.1 c.2.2.2.2.1 c.2.2.2.2.2 f (Y 20) (Y 18) dr' cnt' next' kept' ly' hs' ye' lo' ll' f' y' w' dr n' hh.2.1.1 hh.2.1.2.1 hh.2.1.2.2.1 hh.2.1.2.2.2.1 (by omega) r4 r3 hxy (ay_yr _ dr _ _ _ _ _ _ hay)
    obtain ⟨y1, y2, y3, y4, y5, y6, y7, y8⟩ := ye
    have e7 : w' 761 = ye' := y8.2.2.1.2.1
    rw [e7]
    exact hq M2 _ _ nh hm2 (JR_act (c' := (ly', hs', c.2.2.1, ye', lo', ll')) (f' := f') hR h5 (fun j _ hj => va_up_ne _ _ hj) (fun j hj h18 h20 => by
      unfold ty at hj
      unfold yw
      rw [if_neg (by omega), if_neg (by omega), if_neg h18, va_up_ne _ _ h20]) y8 y7 (by rw [va_up_self]; exact y2.symm) (by simp only []; omega)) h21
theorem j_years {sd : Int} (hd : 125 ≤ d) (hck : 90 ≤ ck) (hsk' : 8580 ≤ sk) (hJ : J g A bs N scr k M) (h5 : k < 512) (a1 : i32 x1) (hQ : ∀ v M1, JM g A bs N scr (k + 1) xX12_years [.inl x1, .inr (.inl sd)] v M1 → Q (some (.inl v)) M1) : sk_call g d ck sk xX11_years [.inr (.inr (some A)), .inl x1, .inr (.inl sd)] M Q := by
  obtain ⟨ra, rb, nl, nw, R, H, R2, H2, T, f, f2, nc, nle, ni, rf, b1, b2, hands, h2, sc, dr, n, i, lc, wn, ho, next, kept, has, nm, lawF, wrF, pgs, lad, wad, qs, sg, ln, pl, ss, lg, size, lines, longest, letters, cnt, c, ci, nh, S, Y, hX, ht, hm, hR, h21⟩ := hJ
  obtain ⟨⟨B0, B4⟩, Bru, ⟨Bl0, Bl1⟩, ⟨Bc0, Bc1⟩, ⟨E23, E27, E22⟩, E0, ⟨W0, W6⟩⟩ := jd_bounds hX hR
  obtain ⟨⟨hx, hx2⟩, G2, ⟨hsh, ⟨L0, L4⟩, W06, L9⟩, G4, G5, G6, ⟨hws, hwa⟩, ⟨hP, hL⟩, hh, ⟨hI, hIL⟩, hNo, hr, ⟨hst, hsb, hsk, hscr, hout, hA⟩⟩ := id hX
  obtain ⟨r1, ⟨r2, r2'⟩, r3, ⟨r4, r4'⟩, ⟨r5, r5'⟩, ⟨r6, r61, r62, r63⟩, ⟨⟨r7, r7a, r7b⟩, r71, r72, r73, r74, r75⟩, r8, r9⟩ := id hR
  obtain ⟨⟨Y0, Y1', Y2⟩, -⟩ := id r1
  obtain ⟨q1, q2, ⟨q3, q4, q5⟩, q6, q7, q8, hk⟩ := id r3
  have rX := jd_rx hX hR
  have hwl := jd_wl hR
  have hH := jd_xH hR
  obtain ⟨la, hlh, hla1, hla2⟩ := jd_la hX
  obtain ⟨yX, wX⟩ := jd_yx hX hR
  have hdx := fun z => jd_dx hX hR z
  have yb : 0 ≤ c.2.2.2.1 ∧ c.2.2.2.1 ≤ 999 := by rw [← q4]; exact ⟨q6.2.2.1, q6.2.2.2.1⟩
  have lb' : 0 ≤ c.2.2.2.2.2 ∧ c.2.2.2.2.2 ≤ 60 := by rw [← q5]; exact q6.2.2.2.2
  have k33 : 0 ≤ S 33 ∧ S 33 ≤ 40 := by rw [r4']; exact ⟨hh.2.1.2.2.1, hh.2.1.2.2.2.1⟩
  have hcy : (0 < hands ∧ 1 ≤ x1 ∧ x1 ≤ 30 ∧ c.2.2.2.1 + x1 ≤ 999) ↔ (S 23 ≠ 0 ∧ 1 ≤ x1 ∧ x1 ≤ 30 ∧ Y 18 761 + x1 ≤ 999) := by
    rw [q4]
    exact ⟨fun q => ⟨by have := E0.2 q.1; omega, q.2⟩, fun q => ⟨E0.1 (by have := rX.2.1; omega), q.2⟩⟩
  refine x_years (hold := jhold ho qs) (la := la) (Nat.le_trans (by decide) hd) hck hsk' hA hst (sta_of hsk) hx hH.2.1 hH.1 hlh hla1 (fun z => (hla2 z).2) hsh W0 W6 r7a r7b hws (fun w w0 w1 => (hwa w w0 w1).1) hP hk hL hh yb.1 yb.2 (by omega) (by omega) lb'.1 lb'.2 a1 (fun z => hQ _ M (JM_q hX ht hm hR h5 h21 (fun d Q hd hq => ?_))) (fun z M' pgs' dr' cnt' next' kept' ly' hs' ye' lo' ll' f' hxy hkf hx' hlh' hP' hk' hL' hh' => ?_)
  · exact m_years (Nat.le_trans (by decide) hd) hm yX hdx k33.1 k33.2 wX a1 (fun _ => hq M S Y hm (fun _ _ => rfl) (fun _ _ => rfl) h21) (fun y => (z (hcy.2 y)).elim)
  · obtain ⟨hX1, t1, m1⟩ := JX_yr (c' := (ly', hs', c.2.2.1, ye', lo', ll')) (f' := f') hX ht hkf (fun q e => e) hla1 (fun z => (hla2 z).1) hlh' hx' hP' hL' hh'
    refine hQ _ M' (JM_m hX1 t1 (m1 S Y hm) (fun d Q hd hq => ?_))
    refine m_years (Nat.le_trans (by decide) hd) (m1 S Y hm) yX hdx k33.1 k33.2 wX a1 (fun y => (y (hcy.1 z)).elim) (fun z' M2 x' n' y' w' lt st hay hm2 => ?_)
    obtain ⟨z1, z2, z3, z4⟩ := z
    have hdx := hdx (E0.2 z1)
    have hW2 := hH.2.1 z1
    rw [r4'] at hay
    have hay2 : yrR (fun x w => ((m_dy S Y (x, w)).1, m_py (jhold ho qs) (Y 14) (Y 13) (R 0 * R 1) hands (m_dy S Y (x, w)).2)) x1.toNat sd kept (Y 20) (Y 18) x' n' y' w' := by
      rw [← E23, ← E22]
      exact hay
    have hink : ∀ j, 0 ≤ j → j < hands → Y 14 (2 * j) = H (2 * j) ∧ 1 ≤ H (2 * j) ∧ H (2 * j) ≤ 9 := fun j j0 j1 => by
      have a := r8.2.2.1 (2 * j) (by omega) (by omega)
      have b := r8.2.2.2.1 j j0 j1
      omega
    have hnh4 := r8.2.2.2.2.1.2.2
    have ye := years_eq (hold := jhold ho qs) (H := H) (R := R) (Hd := Y 14) (R' := Y 13) (cells := R 0 * R 1) (hands := hands) (nh := nh) (co := c.2.2.1) (pre := fun s => x_sd R (x_wd sc wn hands R H sg ln pl size lines longest s)) (prem := fun x w => m_dy S Y (x, w)) rfl Bc0 Bc1 B0 B4 hH.1 (fun j j0 j1 => (r8.2.2.1 j j0 j1).1) Y0 Y2 (fun dr ly hs w hp hw hpk => ?_) x1.toNat sd cnt next kept c.1 c.2.1 c.2.2.2.1 c.2.2.2.2.1 c.2.2.2.2.2 f (Y 20) (Y 18) dr' cnt' next' kept' ly' hs' ye' lo' ll' f' y' w' x' n' hh.2.1.1 hh.2.1.2.1 hh.2.1.2.2.1 hh.2.1.2.2.2.1 (by omega) r4 r3 hxy hay2
    · obtain ⟨y1, y2, y3, y4, y5, y6, y7, y8⟩ := ye
      have e7 : w' 761 = ye' := y8.2.2.1.2.1
      rw [e7]
      exact hq M2 _ _ nh hm2 (JR_act (c' := (ly', hs', c.2.2.1, ye', lo', ll')) (f' := f') hR h5 (fun j hj h33 => by
        unfold ts at hj
        rw [va_up_ne _ _ (by omega), va_up_ne _ _ h33]) (fun j hj h18 h20 => by
        unfold ty at hj
        unfold yw
        rw [if_neg (by omega), if_neg (by omega), if_neg h18, va_up_ne _ _ h20]) y8 y7 (by rw [va_up_ne _ _ (by decide), va_up_self]; exact y2.symm) (by simp only []; omega)) h21
    · have we := wd_eq (s := (dr, ly, hs)) (t := (dr, w)) r1 r7 E22 z1 B4 hW2 hink rfl hp
      have se := sd_eq (s := x_wd sc wn hands R H sg ln pl size lines longest (dr, ly, hs)) (t := m_wd S Y (dr, w)) r1 hW2 we.1 we.2
      have ngd := ng_dy (x := dr) hdx r8.2.2.2.2.2 (by rw [E22]; exact r8.2.2.2.2.1.1) hw.2.1 (fun hg9 => mn_pr we.2 hg9 hnh4)
      have hi9 := m_dy_hi (x := dr) hdx hw.1
      refine ⟨?_, se.1, se.2, ⟨mn_pr se.2 ngd hnh4, ngd, by rw [hi9 761 (by omega)]; exact hw.2.2.1, by rw [hi9 761 (by omega)]; exact hw.2.2.2.1, by rw [hi9 762 (by omega)]; exact hw.2.2.2.2⟩, hi9⟩
      refine pg_sd Bru hW2 ?_
      unfold x_wd
      split
      · exact hpk
      · next y0 =>
        split
        · next y1 =>
          have d2 := dw_in (nx (nx dr)) (j := wn) (by omega) (by omega)
          have d3 := dw_in (nx (nx (nx dr))) (j := hands) (by omega) (by omega)
          simp only [] at y1 ⊢
          have wcx := wc_xi (hws _ d2.1 d2.2).2 Bru y1.1
          have wwp := (r1.2.2.2.2.2 _ d2.1 d2.2).2.1
          have i9 := hink _ d3.1 d3.2
          have sz := bw_size r1 d2.1 d2.2
          exact pg_ldf (fun j j0 j1 => wcx.2.2 j j0 (by omega)) (fun j j0 j1 => by have := wwp j j0 (by omega); exact ⟨this.1, this.2.1⟩) d3.1 (by omega) (by omega) (by omega) hpk
        · exact hpk
end JAGES
