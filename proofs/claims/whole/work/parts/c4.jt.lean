/-! ===== both sides at once: what is asked, with trying out ===== -/
section JT
variable {g : sk_G} {d ck sk : Nat} {M M' : sk_M} {Q : sk_P} {A bs N : Nat} {scr : Int → Int} {k : Int} {x1 x2 x3 x4 : Int} {F : Nat → Prop} {ra rb nl nw : Nat} {R H R2 H2 T f f2 nc nle ni rf : Int → Int} {b1 b2 : Bool} {hands h2 sc dr n i lc wn ho next kept has nm : Int} {lawF wrF pgs : Int → Option Nat} {lad wad : Int → Nat} {qs : Int → List lq_C} {sg ln pl ss lg : Int → Int → Int} {size lines longest letters : Int → Int} {cnt : Int → hC} {c ci : hC} {nh : Int} {S : Nat → Int} {Y : Nat → Int → Int}
def tF (A q : Nat) : Prop := (A + 25 ≤ q ∧ q ≤ A + 27) ∨ (A + 41 ≤ q ∧ q ≤ A + 48) ∨ (A + 50 ≤ q ∧ q ≤ A + 52)
theorem jt_X (hX : JX g M A bs N scr ra rb nl nw R H R2 H2 T f f2 nc nle ni rf b1 b2 hands h2 sc dr n i lc wn ho next kept has nm lawF wrF pgs lad wad qs sg ln pl ss lg size lines longest letters cnt c ci) (fr : sk_fr1 M M' F) (hF : ∀ q, F q → tF A q) : JX g M' A bs N scr ra rb nl nw R H R2 H2 T f f2 nc nle ni rf b1 b2 hands h2 sc dr n i lc wn ho next kept has nm lawF wrF pgs lad wad qs sg ln pl ss lg size lines longest letters cnt c ci := JX_e hX (by rw [fr.1]; exact Nat.le_refl _) (fun q _ hn => fr.2 q (fun e => hn (by have := hF q e; unfold tF at this; omega)))
theorem jt_m (hm : md M M (A + 53) S Y) (fr : sk_fr1 M M' F) (hF : ∀ q, F q → tF A q) : md M' M' (A + 53) S Y := md_e hm (fun q q0 q1 => fr.2 q (fun e => by have := hF q e; unfold tF at this; omega))
theorem tm_rk {w r : Int → Int} {bR bS : Int} (h : tm M A) (fr : sk_fr1 M M' (fun q => A + 46 ≤ q ∧ q ≤ A + 48)) (hr : rk_at M' (A + 46) w r bR bS) (hb : x_jb w) : tm M' A := by
  obtain ⟨⟨_, _, _, _, _, _, a⟩, ⟨_, _, _, _, _, b⟩, -, ⟨_, d⟩, ⟨_, e⟩, _, f⟩ := h
  exact ⟨⟨_, _, _, _, _, _, (fr.2 _ (by omega)).trans a.1, (fr.2 _ (by omega)).trans a.2.1, (fr.2 _ (by omega)).trans a.2.2⟩, ⟨_, _, _, _, _, (fr.2 _ (by omega)).trans b.1, (fr.2 _ (by omega)).trans b.2.1, (fr.2 _ (by omega)).trans b.2.2.1, (fr.2 _ (by omega)).trans b.2.2.2.1, (fr.2 _ (by omega)).trans b.2.2.2.2⟩, ⟨_, _, _, _, hr, hb⟩, ⟨_, (fr.2 _ (by omega)).trans d⟩, ⟨_, (fr.2 _ (by omega)).trans e⟩, _, (fr.2 _ (by omega)).trans f⟩
theorem tm_ls {r m b l : Int → Int} {sz : Int} (h : tm M A) (fr : sk_fr1 M M' (fun q => A + 41 ≤ q ∧ q ≤ A + 45)) (hr : ls_at M' (A + 41) r m b l sz) : tm M' A := by
  obtain ⟨⟨_, _, _, _, _, _, a⟩, -, ⟨_, _, _, _, c, c2⟩, ⟨_, d⟩, ⟨_, e⟩, _, f⟩ := h
  exact ⟨⟨_, _, _, _, _, _, (fr.2 _ (by omega)).trans a.1, (fr.2 _ (by omega)).trans a.2.1, (fr.2 _ (by omega)).trans a.2.2⟩, ⟨_, _, _, _, _, hr⟩, ⟨_, _, _, _, ⟨(fr.2 _ (by omega)).trans c.1, (fr.2 _ (by omega)).trans c.2.1, (fr.2 _ (by omega)).trans c.2.2⟩, c2⟩, ⟨_, (fr.2 _ (by omega)).trans d⟩, ⟨_, (fr.2 _ (by omega)).trans e⟩, _, (fr.2 _ (by omega)).trans f⟩
theorem tm_50 {t : Int → Int} (h : tm M A) (fr : sk_fr1 M M' (fun q => q = A + 50)) (hr : M'.2 (A + 50) = (20, 1080, sk_I t)) : tm M' A := by
  obtain ⟨⟨_, _, _, _, _, _, a⟩, ⟨_, _, _, _, _, b⟩, ⟨_, _, _, _, c, c2⟩, -, ⟨_, e⟩, _, f⟩ := h
  exact ⟨⟨_, _, _, _, _, _, (fr.2 _ (by omega)).trans a.1, (fr.2 _ (by omega)).trans a.2.1, (fr.2 _ (by omega)).trans a.2.2⟩, ⟨_, _, _, _, _, (fr.2 _ (by omega)).trans b.1, (fr.2 _ (by omega)).trans b.2.1, (fr.2 _ (by omega)).trans b.2.2.1, (fr.2 _ (by omega)).trans b.2.2.2.1, (fr.2 _ (by omega)).trans b.2.2.2.2⟩, ⟨_, _, _, _, ⟨(fr.2 _ (by omega)).trans c.1, (fr.2 _ (by omega)).trans c.2.1, (fr.2 _ (by omega)).trans c.2.2⟩, c2⟩, ⟨_, hr⟩, ⟨_, (fr.2 _ (by omega)).trans e⟩, _, (fr.2 _ (by omega)).trans f⟩
theorem tm_tb (h : tm M A) (fr : sk_fr1 M M' (fun q => q = A + 25 ∨ q = A + 26 ∨ q = A + 27 ∨ q = A + 51 ∨ q = A + 52)) (hr : x_tabs M' A) : tm M' A := by
  obtain ⟨-, ⟨_, _, _, _, _, b⟩, ⟨_, _, _, _, c, c2⟩, ⟨_, d⟩, -⟩ := h
  exact ⟨hr.1, ⟨_, _, _, _, _, (fr.2 _ (by omega)).trans b.1, (fr.2 _ (by omega)).trans b.2.1, (fr.2 _ (by omega)).trans b.2.2.1, (fr.2 _ (by omega)).trans b.2.2.2.1, (fr.2 _ (by omega)).trans b.2.2.2.2⟩, ⟨_, _, _, _, ⟨(fr.2 _ (by omega)).trans c.1, (fr.2 _ (by omega)).trans c.2.1, (fr.2 _ (by omega)).trans c.2.2⟩, c2⟩, ⟨_, (fr.2 _ (by omega)).trans d⟩, hr.2.1, hr.2.2⟩
theorem mo_fts_0 {S : Nat → Int} {Y : Nat → Int → Int} (h0 : S 23 ≤ 40) (h6 : S 27 ≤ 6) : -1 ≤ mo_fts S Y 0 ∧ mo_fts S Y 0 < 100000 := by
  unfold mo_fts
  rcases nfo_0 (p := mo_fit S Y) (v := fun w s => 1000 * w + s) (m := (4 * S 23).toNat) (S 27).toNat 0 with ⟨h, -⟩ | ⟨a, j, a0, a1, j0, j1, -, h⟩
  · rw [h]; simp [nfe]
  · rw [h]
    simp only [nfe]
    omega
theorem spot_c {w spot : Int} {S : Nat → Int} {Y : Nat → Int → Int} (h : mo_spot S Y w spot = 1) : 0 < S 23 := by
  unfold mo_spot at h
  split at h
  · next q => exact q.1
  · omega
theorem j_order (hd : 125 ≤ d) (hJ : J g A bs N scr k M) (h5 : k < 512) (a1 : i32 x1) (hQ : ∀ v M1, JM g A bs N scr (k + 1) xX12_order [.inl x1] v M1 → Q (some (.inl v)) M1) : sk_call g d ck sk xX11_order [.inr (.inr (some A)), .inl x1] M Q := by
  obtain ⟨ra, rb, nl, nw, R, H, R2, H2, T, f, f2, nc, nle, ni, rf, b1, b2, hands, h2, sc, dr, n, i, lc, wn, ho, next, kept, has, nm, lawF, wrF, pgs, lad, wad, qs, sg, ln, pl, ss, lg, size, lines, longest, letters, cnt, c, ci, nh, S, Y, hX, ht, hm, hR, h21⟩ := hJ
  obtain ⟨⟨B0, B4⟩, Bru, ⟨Bl0, Bl1⟩, ⟨Bc0, Bc1⟩, ⟨E23, E27, E22⟩, E0, ⟨W0, W6⟩⟩ := jd_bounds hX hR
  obtain ⟨⟨hx, hx2⟩, G2, ⟨hsh, ⟨L0, L4⟩, W06, L9⟩, G4, G5, G6, ⟨hws, hwa⟩, ⟨hP, hL⟩, hh, ⟨hI, hIL⟩, hNo, hr, ⟨hst, hsb, hsk, hscr, hout, hA⟩⟩ := id hX
  obtain ⟨r1, ⟨r2, r2'⟩, r3, ⟨r4, r4'⟩, ⟨r5, r5'⟩, ⟨r6, r61, r62, r63⟩, ⟨⟨r7, r7a, r7b⟩, r71, r72, r73, r74, r75⟩, r8, r9⟩ := id hR
  obtain ⟨⟨Y0, Y1', Y2⟩, -⟩ := id r1
  obtain ⟨q1, q2, ⟨q3, q4, q5⟩, q6, q7, q8, hk⟩ := id r3
  have rX := jd_rx hX hR
  have hwl := jd_wl hR
  have hH := jd_xH hR
  obtain ⟨-, -, ⟨kw, kr, bR, bS, hrk, hjb⟩, -⟩ := id ht
  have hcy : (0 < hands ∧ 0 ≤ x1 ∧ x1 ≤ 1) ↔ (S 23 ≠ 0 ∧ 0 ≤ x1 ∧ x1 ≤ 1) := ⟨fun q => ⟨by have := E0.2 q.1; omega, q.2⟩, fun q => ⟨E0.1 (by have := rX.2.1; omega), q.2⟩⟩
  refine x_order (Nat.le_trans (by decide) hd) hx hP hk hrk hjb a1 (fun z => hQ _ M (JM_q hX ht hm hR h5 h21 (fun d Q hd hq => ?_))) (fun z M' kw' kr' bR' bS' r0 hid hjb' fr hrk' hsk' b0 b1 => ?_)
  · exact m_order (Nat.le_trans (by decide) hd) hm rX (by rw [E22]; exact B0) (by rw [E22]; exact B4) h21 a1 (fun _ => hq M S Y hm (fun _ _ => rfl) (fun _ _ => rfl) h21) (fun z1 z2 z3 => (z (hcy.2 ⟨z1, z2, z3⟩)).elim)
  · obtain ⟨n, hn⟩ : ∃ n : Nat, hands = n := ⟨hands.toNat, by omega⟩
    have oe := order_eq (v := fun o t => -x_prs c.1 c.2.1 o t) (ov := mo_over (Y 18) (S 23)) (n := n) (kw := kw) (r0 := r0) (pl := Y 21) (z := S 36) (by omega) (by omega) (by rw [← hn]; exact hid) (fun a b _ _ _ _ => by rw [E23]; show -x_prs c.1 c.2.1 a b = _; rw [pr_over q1 Bc0 Bc1])
    rw [← hn, ← hsk'] at oe
    have eo : mo_or S Y = to_b (mo_over (Y 18) (S 23)) hands n 0 0 0 0 (Y 21, -1, S 36) := by unfold mo_or; rw [E22, hn, Int.toNat_natCast]
    rw [← eo] at oe
    have hF : ∀ q, A + 46 ≤ q ∧ q ≤ A + 48 → tF A q := fun q e => Or.inr (Or.inl (by omega))
    refine hQ _ M' (JM_q (jt_X hX fr hF) (tm_rk ht fr hrk' hjb') (jt_m hm fr hF) hR h5 h21 (fun d Q hd hq => ?_))
    refine m_order (Nat.le_trans (by decide) hd) (jt_m hm fr hF) rX (by rw [E22]; exact B0) (by rw [E22]; exact B4) h21 a1 (fun y => (y (hcy.1 z)).elim) (fun z1 z2 z3 M2 hto hm2 => ?_)
    have r := hq M2 _ _ hm2 (fun j hj => by unfold ts at hj; unfold yo; rw [va_up_ne _ _ (by omega), va_up_ne _ _ (by omega)]) (fun j hj => va_up_ne _ _ (by unfold ty at hj; omega)) hto.1
    simp only [] at oe
    rw [oe.1, oe.2] at r
    exact r
theorem j_quire (hd : 125 ≤ d) (hJ : J g A bs N scr k M) (h5 : k < 512) (a1 : i32 x1) (hQ : ∀ v M1, JM g A bs N scr (k + 1) xX12_quire [.inl x1] v M1 → Q (some (.inl v)) M1) : sk_call g d ck sk xX11_quire [.inr (.inr (some A)), .inl x1] M Q := by
  obtain ⟨ra, rb, nl, nw, R, H, R2, H2, T, f, f2, nc, nle, ni, rf, b1, b2, hands, h2, sc, dr, n, i, lc, wn, ho, next, kept, has, nm, lawF, wrF, pgs, lad, wad, qs, sg, ln, pl, ss, lg, size, lines, longest, letters, cnt, c, ci, nh, S, Y, hX, ht, hm, hR, h21⟩ := hJ
  obtain ⟨⟨B0, B4⟩, Bru, ⟨Bl0, Bl1⟩, ⟨Bc0, Bc1⟩, ⟨E23, E27, E22⟩, E0, ⟨W0, W6⟩⟩ := jd_bounds hX hR
  obtain ⟨⟨hx, hx2⟩, G2, ⟨hsh, ⟨L0, L4⟩, W06, L9⟩, G4, G5, G6, ⟨hws, hwa⟩, ⟨hP, hL⟩, hh, ⟨hI, hIL⟩, hNo, hr, ⟨hst, hsb, hsk, hscr, hout, hA⟩⟩ := id hX
  obtain ⟨r1, ⟨r2, r2'⟩, r3, ⟨r4, r4'⟩, ⟨r5, r5'⟩, ⟨r6, r61, r62, r63⟩, ⟨⟨r7, r7a, r7b⟩, r71, r72, r73, r74, r75⟩, r8, r9⟩ := id hR
  obtain ⟨⟨Y0, Y1', Y2⟩, -⟩ := id r1
  obtain ⟨q1, q2, ⟨q3, q4, q5⟩, q6, q7, q8, hk⟩ := id r3
  have rX := jd_rx hX hR
  have hwl := jd_wl hR
  have hH := jd_xH hR
  obtain ⟨-, -, ⟨kw, kr, bR, bS, hrk, hjb⟩, -⟩ := id ht
  have hcy : (0 < wn ∧ 0 ≤ x1 ∧ x1 ≤ 1) ↔ (S 27 ≠ 0 ∧ 0 ≤ x1 ∧ x1 ≤ 1) := by omega
  have s0 : 0 ≤ S 27 := rX.2.2.2.1
  have s6 : S 27 ≤ 6 := rX.2.2.2.2.1
  refine x_quire (Nat.le_trans (by decide) hd) hx hsh W0 W6 hws hwl.2.1 hrk hjb a1 (fun z => hQ _ M (JM_q hX ht hm hR h5 h21 (fun d Q hd hq => ?_))) (fun z M' kw' kr' bR' bS' r0 hid hjb' fr hrk' hsk' b0 b1 => ?_)
  · exact m_quire (Nat.le_trans (by decide) hd) hm s0 s6 hwl.2.2.1 a1 (fun _ => hq M S Y hm (fun _ _ => rfl) (fun _ _ => rfl) h21) (fun z1 z2 z3 => (z (hcy.2 ⟨z1, z2, z3⟩)).elim)
  · obtain ⟨n, hn⟩ : ∃ n : Nat, wn = n := ⟨wn.toNat, by omega⟩
    have oe := quire_eq (v := x_mt sg lg) (mt := mo_meet Y) (n := n) (kw := kw) (r0 := r0) (z := S 36) (by omega) (by omega) (by rw [← hn]; exact hid) (fun a b a0 a1 b0 b1 => meet_eq r1 a0 (by omega) b0 (by omega))
    rw [← hn, ← hsk'] at oe
    have eo : mo_qu S Y = tq_b (mo_meet Y) wn n 0 0 0 (-1) (-1, S 36) := by unfold mo_qu; rw [E27, hn, Int.toNat_natCast]
    rw [← eo] at oe
    have hF : ∀ q, A + 46 ≤ q ∧ q ≤ A + 48 → tF A q := fun q e => Or.inr (Or.inl (by omega))
    refine hQ _ M' (JM_q (jt_X hX fr hF) (tm_rk ht fr hrk' hjb') (jt_m hm fr hF) hR h5 h21 (fun d Q hd hq => ?_))
    refine m_quire (Nat.le_trans (by decide) hd) (jt_m hm fr hF) s0 s6 hwl.2.2.1 a1 (fun y => (y (hcy.1 z)).elim) (fun z1 z2 z3 M2 hto hm2 => ?_)
    have r := hq M2 _ _ hm2 (fun j hj => by unfold ts at hj; unfold yq; rw [va_up_ne _ _ (by omega), va_up_ne _ _ (by omega)]) (fun j hj => rfl) h21
    rw [← oe]
    exact r
theorem j_lost (hd : 125 ≤ d) (hJ : J g A bs N scr k M) (h5 : k < 512) (a1 : i32 x1) (a2 : i32 x2) (a3 : i32 x3) (hQ : ∀ v M1, JM g A bs N scr (k + 1) xX12_lost [.inl x1, .inl x2, .inl x3] v M1 → Q (some (.inl v)) M1) : sk_call g d ck sk xX11_lost [.inr (.inr (some A)), .inl x1, .inl x2, .inl x3] M Q := by
  obtain ⟨ra, rb, nl, nw, R, H, R2, H2, T, f, f2, nc, nle, ni, rf, b1, b2, hands, h2, sc, dr, n, i, lc, wn, ho, next, kept, has, nm, lawF, wrF, pgs, lad, wad, qs, sg, ln, pl, ss, lg, size, lines, longest, letters, cnt, c, ci, nh, S, Y, hX, ht, hm, hR, h21⟩ := hJ
  obtain ⟨⟨B0, B4⟩, Bru, ⟨Bl0, Bl1⟩, ⟨Bc0, Bc1⟩, ⟨E23, E27, E22⟩, E0, ⟨W0, W6⟩⟩ := jd_bounds hX hR
  obtain ⟨⟨hx, hx2⟩, G2, ⟨hsh, ⟨L0, L4⟩, W06, L9⟩, G4, G5, G6, ⟨hws, hwa⟩, ⟨hP, hL⟩, hh, ⟨hI, hIL⟩, hNo, hr, ⟨hst, hsb, hsk, hscr, hout, hA⟩⟩ := id hX
  obtain ⟨r1, ⟨r2, r2'⟩, r3, ⟨r4, r4'⟩, ⟨r5, r5'⟩, ⟨r6, r61, r62, r63⟩, ⟨⟨r7, r7a, r7b⟩, r71, r72, r73, r74, r75⟩, r8, r9⟩ := id hR
  obtain ⟨⟨Y0, Y1', Y2⟩, -⟩ := id r1
  obtain ⟨q1, q2, ⟨q3, q4, q5⟩, q6, q7, q8, hk⟩ := id r3
  have rX := jd_rx hX hR
  have hwl := jd_wl hR
  have hH := jd_xH hR
  obtain ⟨-, ⟨lr, lm, lb, lll, lsz, hls⟩, -⟩ := id ht
  have b := bw_spot (w := x1) (spot := x2) r1
  refine x_lost (Nat.le_trans (by decide) hd) hst hx hsh W0 W6 hws hP hk hls a1 a2 a3 (fun z => hQ _ M (JM_q hX ht hm hR h5 h21 (fun d Q hd hq => ?_))) (fun z M' r0 m0 lr' lm' lb' ll' sz' v fr hls' hv => ?_)
  · exact m_lost (Nat.le_trans (by decide) hd) hm rX a1.1 a1.2 a2.1 a2.2 a3.1 a3.2 (fun _ => hq M S Y hm (fun _ _ => rfl) (fun _ _ => rfl) h21) (fun z1 z2 z3 => (z ⟨(b.1 z1).1, (b.1 z1).2.1, z2, z3, (b.1 z1).2.2⟩).elim)
  · obtain ⟨z1, z2, z3, z4, z5⟩ := z
    have hs := b.2 ⟨z1, z2, z5⟩
    have h0 := E0.1 (spot_c hs)
    have hF : ∀ q, A + 41 ≤ q ∧ q ≤ A + 45 → tF A q := fun q e => Or.inr (Or.inl (by omega))
    refine hQ _ M' (JM_q (jt_X hX fr hF) (tm_ls ht fr hls') (jt_m hm fr hF) hR h5 h21 (fun d Q hd hq => ?_))
    refine m_lost (Nat.le_trans (by decide) hd) (jt_m hm fr hF) rX a1.1 a1.2 a2.1 a2.2 a3.1 a3.2 (fun y => (y ⟨hs, z3, z4⟩).elim) (fun _ _ _ M2 f ag l s hag hm2 => ?_)
    have w := r1.2.2.2.2.2 x1 z1 z2
    rw [← lost_eq (hands := hands) w.1 w.2 Y0 Y1' Y2 Bru (r8.2.1 h0).2 z5 q1 hag z3 z4 hv]
    exact hq M2 _ _ hm2 (fun j hj => rfl) (fun j hj => by unfold ty at hj; unfold yl; rw [if_neg (by omega), if_neg (by omega), if_neg (by omega), if_neg (by omega)]) h21
theorem j_ask (hd : 125 ≤ d) (hJ : J g A bs N scr k M) (h5 : k < 512) (hQ : ∀ v M1, JM g A bs N scr (k + 1) xX12_ask [] v M1 → Q (some (.inl v)) M1) : sk_call g d ck sk xX11_ask [.inr (.inr (some A))] M Q := by
  obtain ⟨ra, rb, nl, nw, R, H, R2, H2, T, f, f2, nc, nle, ni, rf, b1, b2, hands, h2, sc, dr, n, i, lc, wn, ho, next, kept, has, nm, lawF, wrF, pgs, lad, wad, qs, sg, ln, pl, ss, lg, size, lines, longest, letters, cnt, c, ci, nh, S, Y, hX, ht, hm, hR, h21⟩ := hJ
  obtain ⟨⟨B0, B4⟩, Bru, ⟨Bl0, Bl1⟩, ⟨Bc0, Bc1⟩, ⟨E23, E27, E22⟩, E0, ⟨W0, W6⟩⟩ := jd_bounds hX hR
  obtain ⟨⟨hx, hx2⟩, G2, ⟨hsh, ⟨L0, L4⟩, W06, L9⟩, G4, G5, G6, ⟨hws, hwa⟩, ⟨hP, hL⟩, hh, ⟨hI, hIL⟩, hNo, hr, ⟨hst, hsb, hsk, hscr, hout, hA⟩⟩ := id hX
  obtain ⟨r1, ⟨r2, r2'⟩, r3, ⟨r4, r4'⟩, ⟨r5, r5'⟩, ⟨r6, r61, r62, r63⟩, ⟨⟨r7, r7a, r7b⟩, r71, r72, r73, r74, r75⟩, r8, r9⟩ := id hR
  obtain ⟨⟨Y0, Y1', Y2⟩, -⟩ := id r1
  obtain ⟨q1, q2, ⟨q3, q4, q5⟩, q6, q7, q8, hk⟩ := id r3
  have rX := jd_rx hX hR
  have hwl := jd_wl hR
  have hH := jd_xH hR
  obtain ⟨-, -, -, ⟨tf, htf⟩, -⟩ := id ht
  refine x_ask (Nat.le_trans (by decide) hd) hst hx hsh W0 W6 hws hwl.1 hNo r2' htf (fun M' t tf' ht0 fr htf' => ?_)
  have hF : ∀ q, q = A + 50 → tF A q := fun q e => Or.inr (Or.inr (by omega))
  refine hQ _ M' (JM_q (jt_X hX fr hF) (tm_50 ht fr htf') (jt_m hm fr hF) hR h5 h21 (fun d Q hd hq => ?_))
  refine m_ask (Nat.le_trans (by decide) hd) (jt_m hm fr hF) rX (jd_rn hX hR) (fun z => ?_) (fun z M2 t2 f2 ht2 hm2 => ?_) (mo_fts_0 rX.2.2.1 rX.2.2.2.2.1)
  · have r := hq M' S Y (jt_m hm fr hF) (fun _ _ => rfl) (fun _ _ => rfl) h21
    rw [ask_eq r1 r2 ht0 ht0, if_neg z] at r
    exact r
  · have r := hq M2 _ _ hm2 (fun _ _ => rfl) (fun j hj => va_up_ne _ _ (by unfold ty at hj; omega)) h21
    rw [ask_eq r1 r2 ht0 ht2, if_pos z] at r
    exact r
theorem jrow {x : Int} (hru : ru_ok (R 0) (R 1)) (x0 : 0 ≤ x) (h : x < R 1) : 0 ≤ x * R 0 ∧ x * R 0 + R 0 ≤ 40 ∧ 0 < R 1 := by
  have hR : (2 ≤ R 0 ∧ R 0 ≤ 8 ∧ 1 ≤ R 1 ∧ R 1 ≤ 5) := by rcases hru with h | h <;> omega
  have : x = 0 ∨ x = 1 ∨ x = 2 ∨ x = 3 ∨ x = 4 := by omega
  rcases this with rfl | rfl | rfl | rfl | rfl <;> omega
theorem j_game (hd : 125 ≤ d) (hJ : J g A bs N scr k M) (h5 : k < 512) (a1 : i32 x1) (a2 : i32 x2) (a3 : i32 x3) (a4 : i32 x4) (hQ : ∀ v M1, JM g A bs N scr (k + 1) xX12_game [.inl x1, .inl x2, .inl x3, .inl x4] v M1 → Q (some (.inl v)) M1) : sk_call g d ck sk xX11_game [.inr (.inr (some A)), .inl x1, .inl x2, .inl x3, .inl x4] M Q := by
  obtain ⟨ra, rb, nl, nw, R, H, R2, H2, T, f, f2, nc, nle, ni, rf, b1, b2, hands, h2, sc, dr, n, i, lc, wn, ho, next, kept, has, nm, lawF, wrF, pgs, lad, wad, qs, sg, ln, pl, ss, lg, size, lines, longest, letters, cnt, c, ci, nh, S, Y, hX, ht, hm, hR, h21⟩ := hJ
  obtain ⟨⟨B0, B4⟩, Bru, ⟨Bl0, Bl1⟩, ⟨Bc0, Bc1⟩, ⟨E23, E27, E22⟩, E0, ⟨W0, W6⟩⟩ := jd_bounds hX hR
  obtain ⟨⟨hx, hx2⟩, G2, ⟨hsh, ⟨L0, L4⟩, W06, L9⟩, G4, G5, G6, ⟨hws, hwa⟩, ⟨hP, hL⟩, hh, ⟨hI, hIL⟩, hNo, hr, ⟨hst, hsb, hsk, hscr, hout, hA⟩⟩ := id hX
  obtain ⟨r1, ⟨r2, r2'⟩, r3, ⟨r4, r4'⟩, ⟨r5, r5'⟩, ⟨r6, r61, r62, r63⟩, ⟨⟨r7, r7a, r7b⟩, r71, r72, r73, r74, r75⟩, r8, r9⟩ := id hR
  obtain ⟨⟨Y0, Y1', Y2⟩, -⟩ := id r1
  obtain ⟨q1, q2, ⟨q3, q4, q5⟩, q6, q7, q8, hk⟩ := id r3
  have rX := jd_rx hX hR
  have hwl := jd_wl hR
  have hH := jd_xH hR
  obtain ⟨⟨ly2, hs2, co2, ye2, lo2, ll2, hT⟩, -, -, -, ⟨sf, hsf⟩, rf2, hrf2⟩ := id ht
  have h13 : -1000 ≤ Y 13 1 ∧ Y 13 1 ≤ 1000 := by rw [Y1']; have := ru_cl Bru; omega
  have hcy : (0 ≤ x1 ∧ x1 < R 1 ∧ 0 ≤ x2 ∧ x2 < 4 ∧ 0 ≤ x3 ∧ x3 < 3 ∧ 0 ≤ x4 ∧ x4 ≤ 1) ↔ (0 < S 23 ∧ 0 ≤ x1 ∧ x1 < Y 13 1 ∧ 0 ≤ x2 ∧ x2 ≤ 3 ∧ 0 ≤ x3 ∧ x3 ≤ 2 ∧ 0 ≤ x4 ∧ x4 ≤ 1) := by
    rw [Y1']
    refine ⟨fun q => ⟨E0.2 ?_, by omega⟩, fun q => by omega⟩
    by_cases e : hands = 0
    · have := (r8.1 e).2; omega
    · omega
  refine x_game (Nat.le_trans (by decide) hd) hx hP hk hT hsf hrf2 a1 a2 a3 a4 (fun z => hQ _ M (JM_q hX ht hm hR h5 h21 (fun d Q hd hq => ?_))) (fun z M' sf' rf' fr htb hg => ?_)
  · exact m_game (Nat.le_trans (by decide) hd) hm rX a1 a2 a3 a4 (fun _ => hq M S Y hm (fun _ _ => rfl) (fun _ _ => rfl) h21) (fun y => (z (hcy.2 y)).elim) h13
  · have hF : ∀ q, q = A + 25 ∨ q = A + 26 ∨ q = A + 27 ∨ q = A + 51 ∨ q = A + 52 → tF A q := fun q e => by unfold tF; omega
    refine hQ _ M' (JM_q (jt_X hX fr hF) (tm_tb ht fr htb) (jt_m hm fr hF) hR h5 h21 (fun d Q hd hq => ?_))
    refine m_game (Nat.le_trans (by decide) hd) (jt_m hm fr hF) rX a1 a2 a3 a4 (fun y => (y (hcy.1 z)).elim) (fun _ M2 f hm2 => ?_) h13
    obtain ⟨z1, z2, z3, z4, z5, z6, z7, z8⟩ := z
    have jr := jrow Bru z1 z2
    have ge := game_eq (cells := R 0 * R 1) (nw := Y 18) (leg := Y 13 2) q1 Bc0 Y2.symm jr.1 jr.2.1 z3 (hg x2 z3 z4)
    have r := hq M2 _ _ hm2 (fun _ _ => rfl) (fun j hj => va_up_ne _ _ (by unfold ty at hj; omega)) h21
    rw [Y0]
    by_cases e : x4 = 0
    · rw [if_pos e, ge.1 x3] at r
      rw [e]
      exact r
    · rw [if_neg e, ge.2 x3 z5 (by omega)] at r
      rw [show x4 = 1 by omega]
      exact r
theorem j_rests (hd : 125 ≤ d) (hJ : J g A bs N scr k M) (h5 : k < 512) (a1 : i32 x1) (a2 : i32 x2) (hQ : ∀ v M1, JM g A bs N scr (k + 1) xX12_rests [.inl x1, .inl x2] v M1 → Q (some (.inl v)) M1) : sk_call g d ck sk xX11_rests [.inr (.inr (some A)), .inl x1, .inl x2] M Q := by
  obtain ⟨ra, rb, nl, nw, R, H, R2, H2, T, f, f2, nc, nle, ni, rf, b1, b2, hands, h2, sc, dr, n, i, lc, wn, ho, next, kept, has, nm, lawF, wrF, pgs, lad, wad, qs, sg, ln, pl, ss, lg, size, lines, longest, letters, cnt, c, ci, nh, S, Y, hX, ht, hm, hR, h21⟩ := hJ
  obtain ⟨⟨B0, B4⟩, Bru, ⟨Bl0, Bl1⟩, ⟨Bc0, Bc1⟩, ⟨E23, E27, E22⟩, E0, ⟨W0, W6⟩⟩ := jd_bounds hX hR
  obtain ⟨⟨hx, hx2⟩, G2, ⟨hsh, ⟨L0, L4⟩, W06, L9⟩, G4, G5, G6, ⟨hws, hwa⟩, ⟨hP, hL⟩, hh, ⟨hI, hIL⟩, hNo, hr, ⟨hst, hsb, hsk, hscr, hout, hA⟩⟩ := id hX
  obtain ⟨r1, ⟨r2, r2'⟩, r3, ⟨r4, r4'⟩, ⟨r5, r5'⟩, ⟨r6, r61, r62, r63⟩, ⟨⟨r7, r7a, r7b⟩, r71, r72, r73, r74, r75⟩, r8, r9⟩ := id hR
  obtain ⟨⟨Y0, Y1', Y2⟩, -⟩ := id r1
  obtain ⟨q1, q2, ⟨q3, q4, q5⟩, q6, q7, q8, hk⟩ := id r3
  have rX := jd_rx hX hR
  have hwl := jd_wl hR
  have hH := jd_xH hR
  obtain ⟨⟨ly2, hs2, co2, ye2, lo2, ll2, hT⟩, -, -, -, ⟨sf, hsf⟩, rf2, hrf2⟩ := id ht
  have h13 : -1000 ≤ Y 13 1 ∧ Y 13 1 ≤ 1000 := by rw [Y1']; have := ru_cl Bru; omega
  have hcy : (0 ≤ x1 ∧ x1 < R 1 ∧ -1 ≤ x2) ↔ (0 < S 23 ∧ 0 ≤ x1 ∧ x1 < Y 13 1 ∧ -1 ≤ x2) := by
    rw [Y1']
    refine ⟨fun q => ⟨E0.2 ?_, by omega⟩, fun q => by omega⟩
    by_cases e : hands = 0
    · have := (r8.1 e).2; omega
    · omega
  refine x_rests (Nat.le_trans (by decide) hd) hx hP hk hT hsf hrf2 a1 a2 (fun z => hQ _ M (JM_q hX ht hm hR h5 h21 (fun d Q hd hq => ?_))) (fun z M' sf' rf' fr htb hg => ?_)
  · exact m_rests (Nat.le_trans (by decide) hd) hm rX h13 a1 a2 (fun _ => hq M S Y hm (fun _ _ => rfl) (fun _ _ => rfl) h21) (fun y => (z (hcy.2 y)).elim)
  · have hF : ∀ q, q = A + 25 ∨ q = A + 26 ∨ q = A + 27 ∨ q = A + 51 ∨ q = A + 52 → tF A q := fun q e => by unfold tF; omega
    refine hQ _ M' (JM_q (jt_X hX fr hF) (tm_tb ht fr htb) (jt_m hm fr hF) hR h5 h21 (fun d Q hd hq => ?_))
    refine m_rests (Nat.le_trans (by decide) hd) (jt_m hm fr hF) rX h13 a1 a2 (fun y => (y (hcy.1 z)).elim) (fun _ M2 f hm2 => ?_)
    obtain ⟨z1, z2, z3⟩ := z
    have jr := jrow Bru z1 z2
    have re := rests_eq (nw := Y 18) (R := R) (leg := Y 13 2) (row := x1) (i := x2) (sf := sf') (rf := rf') (fun x x0 x4 => game_eq (cells := R 0 * R 1) (nw := Y 18) (leg := Y 13 2) q1 Bc0 Y2.symm jr.1 jr.2.1 x0 (hg x x0 x4))
    have r := hq M2 _ _ hm2 (fun _ _ => rfl) (fun j hj => va_up_ne _ _ (by unfold ty at hj; omega)) h21
    rw [re] at r
    unfold mo_rs
    rw [Y0]
    exact r
theorem j_most (hd : 125 ≤ d) (hJ : J g A bs N scr k M) (h5 : k < 512) (a1 : i32 x1) (hQ : ∀ v M1, JM g A bs N scr (k + 1) xX12_most [.inl x1] v M1 → Q (some (.inl v)) M1) : sk_call g d ck sk xX11_most [.inr (.inr (some A)), .inl x1] M Q := by
  obtain ⟨ra, rb, nl, nw, R, H, R2, H2, T, f, f2, nc, nle, ni, rf, b1, b2, hands, h2, sc, dr, n, i, lc, wn, ho, next, kept, has, nm, lawF, wrF, pgs, lad, wad, qs, sg, ln, pl, ss, lg, size, lines, longest, letters, cnt, c, ci, nh, S, Y, hX, ht, hm, hR, h21⟩ := hJ
  obtain ⟨⟨B0, B4⟩, Bru, ⟨Bl0, Bl1⟩, ⟨Bc0, Bc1⟩, ⟨E23, E27, E22⟩, E0, ⟨W0, W6⟩⟩ := jd_bounds hX hR
  obtain ⟨⟨hx, hx2⟩, G2, ⟨hsh, ⟨L0, L4⟩, W06, L9⟩, G4, G5, G6, ⟨hws, hwa⟩, ⟨hP, hL⟩, hh, ⟨hI, hIL⟩, hNo, hr, ⟨hst, hsb, hsk, hscr, hout, hA⟩⟩ := id hX
  obtain ⟨r1, ⟨r2, r2'⟩, r3, ⟨r4, r4'⟩, ⟨r5, r5'⟩, ⟨r6, r61, r62, r63⟩, ⟨⟨r7, r7a, r7b⟩, r71, r72, r73, r74, r75⟩, r8, r9⟩ := id hR
  obtain ⟨⟨Y0, Y1', Y2⟩, -⟩ := id r1
  obtain ⟨q1, q2, ⟨q3, q4, q5⟩, q6, q7, q8, hk⟩ := id r3
  have rX := jd_rx hX hR
  have hwl := jd_wl hR
  have hH := jd_xH hR
  obtain ⟨-, -, -, ⟨tf, htf⟩, -⟩ := id ht
  refine x_most (Nat.le_trans (by decide) hd) hx hH.2.1 hP hk htf a1 (fun z => hQ _ M (JM_q hX ht hm hR h5 h21 (fun d Q hd hq => ?_))) (fun z1 z2 z3 M' tf' fr htf' => ?_)
  · refine m_most (Nat.le_trans (by decide) hd) hm rX (by rw [E22]; exact B0) (by rw [E22]; exact B4) a1 ?_
    rw [if_pos (show S 23 = 0 ∨ x1 < 0 ∨ 9 < x1 by omega)]
    exact hq M S Y hm (fun _ _ => rfl) (fun _ _ => rfl) h21
  · have hF : ∀ q, q = A + 50 → tF A q := fun q e => Or.inr (Or.inr (by omega))
    refine hQ _ M' (JM_q (jt_X hX fr hF) (tm_50 ht fr htf') (jt_m hm fr hF) hR h5 h21 (fun d Q hd hq => ?_))
    refine m_most (Nat.le_trans (by decide) hd) (jt_m hm fr hF) rX (by rw [E22]; exact B0) (by rw [E22]; exact B4) a1 ?_
    rw [if_neg (show ¬ (S 23 = 0 ∨ x1 < 0 ∨ 9 < x1) by omega), ← most_eq q1 E23 E22 Y0 Y1' Y2 Bru B0 B4 z2 z3]
    exact hq M' S Y (jt_m hm fr hF) (fun _ _ => rfl) (fun _ _ => rfl) h21
end JT
