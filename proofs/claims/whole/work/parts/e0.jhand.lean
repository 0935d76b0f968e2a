/-! ===== both sides at once: hand ===== -/
/-- the law behind its own hand -/
def kT_hand (g : sk_G) (d ck sk : Nat) (Q : sk_P) : sk_K := o_istore 5 (o_aload 2 (o_aload 0 (o_iload 4 (o_i (1) (o_iadd (o_iaload (o_aload 0 (o_iload 4 (o_i (2) (o_iadd (o_iaload (o_invB (g, d, ck - 90, sk - 8580, xL_law, Q) xX12_hand 2 12 0 0 (o_istore 6 (o_aload 2 (o_invB (g, d, ck - 90, sk - 8580, xL_law, Q) xX12_thrown 0 12 0 0 (o_iload 5 (o_iceq (o_iload 5 (o_ifne (sk_B (g, d, ck - 90, sk - 8580, xL_law, Q) 1655) (o_aload 3 (o_i (0) (o_laload (o_iload 6 (o_i2l (o_lcmp (o_ifeq (sk_B (g, d, ck - 90, sk - 8580, xL_law, Q) 1655) (o_i (0) (o_zret (g, d, ck - 90, sk - 8580, xL_law, Q)))))))))))) (o_i (0) (o_zret (g, d, ck - 90, sk - 8580, xL_law, Q))))))))))))))))))))
theorem po_hnd (w : sk_W) (ck sk : Nat) (k : sk_K) (L : List (Option sk_V)) (v1 v2 v3 v4 : sk_V) (r : List sk_V) (M : sk_M) : o_hnd w ck sk k L (v1 :: v2 :: v3 :: v4 :: r) M = (sk_wt r ≤ 8 ∧ 1 ≤ w.2.1 ∧ ck ≤ w.2.2.1 ∧ sk ≤ w.2.2.2.1 ∧ Met w.1.1 yL_hand lh_ws (sk_R (w.2.1 - 1) ck sk) (sk_Pc w.1 [v4, v3, v2, v1] M) (sk_Q w.1 (fun v M' => k L (sk_tl v r) M')) ck sk (sk_fr w.1)) := rfl
theorem lc_few {w : sk_W} {pc : Nat} {st : List sk_V} {M : sk_M} {a0 a1 a2 a3 a4 b5 b6 : Option sk_V} (k : sk_B w pc [a0, a1, a2, a3, a4, none, none] st M) : sk_B w pc [a0, a1, a2, a3, a4, b5, b6] st M := by
  refine sk_fewer (fun n v h => ?_) k
  match n, h with
  | 0, h => exact h
  | 1, h => exact h
  | 2, h => exact h
  | 3, h => exact h
  | 4, h => exact h
  | 5, h => simp [sk_nth] at h
  | 6, h => simp [sk_nth] at h
  | n + 7, h => simp [sk_nth] at h
theorem sk_lcmp_self (x : Int) : sk_lcmp x x = 0 := by unfold sk_lcmp; rw [if_neg (Int.lt_irrefl _), if_pos rfl]
section JHAND
variable {g : sk_G} {d ck sk : Nat} {M M1 : sk_M} {Q : sk_P} {A bs N : Nat} {scr : Int → Int} {k v5 v84 : Int} {ra rb nl nw : Nat} {R H R2 H2 T f f2 nc nle ni rf : Int → Int} {b1 b2 : Bool} {hands h2 sc dr n i lc wn ho next kept has nm : Int} {lawF wrF pgs : Int → Option Nat} {lad wad : Int → Nat} {qs : Int → List lq_C} {sg ln pl ss lg : Int → Int → Int} {size lines longest letters : Int → Int} {cnt : Int → hC} {c ci : hC} {nh : Int} {S : Nat → Int} {Y : Nat → Int → Int}
theorem lc_handT (hd : 127 ≤ d) (hX1 : JX g M1 A bs N scr ra rb nl nw R H R2 H2 T f f2 nc nle ni rf b1 b2 hands h2 sc dr n i lc wn ho next kept has nm lawF wrF pgs lad wad qs sg ln pl ss lg size lines longest letters cnt c ci) (ht1 : tm M1 A) (hm1 : md M1 M1 (A + 53) S Y) (hR : JR k ra rb nl nw R H R2 H2 T f f2 nc nle ni rf b1 b2 hands h2 sc dr n i lc wn ho next kept has nm lawF wrF pgs lad wad qs sg ln pl ss lg size lines longest letters cnt c ci nh S Y) (h21 : j21 Y) (rX : rx S Y) (h22 : S 22 = hands) (B0 : 0 ≤ hands) (B4 : hands ≤ 4) (h5 : k < 512) (h0 : 0 ≤ k) (hN : 6 * k + 6 ≤ N) (hN2 : N ≤ 3072) (hi : ∀ j, i32 (scr j)) (hs1 : M1.2 bs = (30, N, sk_I scr)) (ho1 : M1.2 (A + 84) = (22, 1, fun _ => .inr (.inl v84)))
    (hcase : (v5 = 1 ∧ ¬ (0 ≤ scr (6 * k + 1) ∧ scr (6 * k + 1) < hands ∧ 0 ≤ scr (6 * k + 2) ∧ scr (6 * k + 2) ≤ 3)) ∨ (v5 = 0 ∧ (0 ≤ scr (6 * k + 1) ∧ scr (6 * k + 1) < hands ∧ 0 ≤ scr (6 * k + 2) ∧ scr (6 * k + 2) ≤ 3) ∧ v84 = sk_w (mo_hd S Y (scr (6 * k + 1)) (scr (6 * k + 2)))))
    (hn : ∀ M2, J g A bs N scr (k + 1) M2 → sk_B (g, d, ck - 90, sk - 8580, xL_law, Q) 1655 (lL A bs (6 * k)) [] M2) : kT_hand g d ck sk Q (lL A bs (6 * k)) [.inl v5] M1 := by
  have hB := hm1.1
  have i1 := hi (6 * k + 1)
  have i2 := hi (6 * k + 2)
  have hS : ∀ z j, ¬ ts j → va_up S 0 z j = S j := fun z j hj => va_up_ne _ _ (by unfold ts at hj; omega)
  have hfin : ∀ M2 z, md M1 M2 (A + 53) (va_up S 0 z) Y → sk_B (g, d, ck - 90, sk - 8580, xL_law, Q) 1655 (lL A bs (6 * k)) [] M2 := fun M2 z h => hn M2 (J_q hX1 ht1 hR h5 h (hS z) (fun _ _ => rfl) h21)
  unfold lL at hfin ⊢
  clear hn
  simp (disch := omega) only [kT_hand, po_istore, po_iload, po_aload, po_i, po_iadd, po_iaload, po_invB, sk_nth, sk_set, sk_lok, sk_isL, sk_one, sk_pop, sk_wt, sk_cat, sk_ent, sk_pad, sk_tl_n, sk_tl_s, List.length_cons, List.length_nil, and_true, Bool.not_false, sk_w_id, sk_I_at, hs1, hB, lc_30, true_and]
  refine ⟨by omega, by omega, by omega, by omega, by omega, by omega, by omega, by omega, by omega, ?_⟩
  refine m_hand (by omega) hm1 rX (by rw [h22]; exact B0) (by rw [h22]; exact B4) i1 i2 (fun z M2 hm2 => ?_) (fun z M2 hm2 => ?_)
  · rw [h22] at z
    have hB2 := hm2.1
    rcases hcase with ⟨rfl, -⟩ | ⟨-, z2, -⟩
    · simp (disch := omega) only [po_istore, po_iload, po_aload, po_i, po_iceq, po_ifne, po_ifeq, po_i2l, po_lcmp, po_laload, po_invB, sk_nth, sk_set, sk_lok, sk_isL, sk_one, sk_pop, sk_wt, sk_cat, sk_ent, sk_pad, sk_tl_n, sk_tl_s, List.length_cons, List.length_nil, and_true, Bool.not_false, sk_w_id, lc_30, true_and, hB2]
      refine ⟨by omega, by omega, by omega, by omega, by omega, m_thrown hm2 (by omega) ?_⟩
      simp (disch := omega) only [po_istore, po_iload, po_aload, po_i, po_iceq, po_ifne, po_ifeq, po_i2l, po_lcmp, po_laload, po_invB, sk_nth, sk_set, sk_lok, sk_isL, sk_one, sk_pop, sk_wt, sk_cat, sk_ent, sk_pad, sk_tl_n, sk_tl_s, List.length_cons, List.length_nil, and_true, Bool.not_false, sk_w_id, lc_30, true_and, va_up_self]
      exact ⟨fun _ => ⟨fun _ => lc_few (hfin M2 1 hm2), fun h => absurd h (by decide)⟩, fun h => (h rfl).elim⟩
    · exact (z z2).elim
  · rw [h22] at z
    have hB2 := hm2.1
    have ho2 : M2.2 (A + 84) = (22, 1, fun _ => .inr (.inl v84)) := (hm2.2.2.2 (A + 84) (by omega)).trans ho1
    rcases hcase with ⟨-, z2⟩ | ⟨rfl, -, rfl⟩
    · exact (z2 z).elim
    · simp (disch := omega) only [po_istore, po_iload, po_aload, po_i, po_iceq, po_ifne, po_ifeq, po_i2l, po_lcmp, po_laload, po_invB, sk_nth, sk_set, sk_lok, sk_isL, sk_one, sk_pop, sk_wt, sk_cat, sk_ent, sk_pad, sk_tl_n, sk_tl_s, List.length_cons, List.length_nil, and_true, Bool.not_false, sk_w_id, lc_30, true_and, hB2]
      refine ⟨by omega, by omega, by omega, by omega, by omega, m_thrown hm2 (by omega) ?_⟩
      simp (disch := omega) only [po_istore, po_iload, po_aload, po_i, po_iceq, po_ifne, po_ifeq, po_i2l, po_lcmp, po_laload, po_invB, sk_nth, sk_set, sk_lok, sk_isL, sk_one, sk_pop, sk_wt, sk_cat, sk_ent, sk_pad, sk_tl_n, sk_tl_s, List.length_cons, List.length_nil, and_true, Bool.not_false, sk_w_id, lc_30, true_and, va_up_self, ho2, sk_lcmp_self]
      exact ⟨fun _ => ⟨fun h => absurd rfl h, fun _ => ⟨by omega, by omega, fun _ => lc_few (hfin M2 0 hm2), fun h => absurd rfl h⟩⟩, fun h => absurd rfl h⟩
theorem JX_out (h : JX g M A bs N scr ra rb nl nw R H R2 H2 T f f2 nc nle ni rf b1 b2 hands h2 sc dr n i lc wn ho next kept has nm lawF wrF pgs lad wad qs sg ln pl ss lg size lines longest letters cnt c ci) (h1 : M.1 ≤ M1.1) (he : ∀ q, q < M.1 → q ≠ A + 84 → M1.2 q = M.2 q) (hoo : M1.2 (A + 84) = (22, 1, fun _ => .inr (.inl v84))) : JX g M1 A bs N scr ra rb nl nw R H R2 H2 T f f2 nc nle ni rf b1 b2 hands h2 sc dr n i lc wn ho next kept has nm lawF wrF pgs lad wad qs sg ln pl ss lg size lines longest letters cnt c ci := by
  obtain ⟨h01, h02, h03, h04, h05, h06, h07, h08, h09, h10, h11, h12, h14⟩ := h
  have e14 := h14.2.2.2.2.2
  have h14o : g14 g M1 A bs N scr := by
    obtain ⟨k1, ⟨y0, y1, z0, z1, z2⟩, k3, ⟨k4, k5⟩, -, k7⟩ := h14
    have F : ∀ q, q < A → M1.2 q = M.2 q := fun q hq => he q (by omega) (by omega)
    exact ⟨⟨(F _ (k3 2 (by decide))).trans k1.1, (F _ (k3 3 (by decide))).trans k1.2.1, (F _ (k3 4 (by decide))).trans k1.2.2.1, (F _ (k3 5 (by decide))).trans k1.2.2.2⟩, ⟨y0, y1, (F _ (k3 0 (by decide))).trans z0, (F _ (k3 1 (by decide))).trans z1, z2⟩, k3, ⟨(F _ k5).trans k4, k5⟩, ⟨v84, hoo⟩, Nat.le_trans k7 h1⟩
  have hA : ∀ q, q < A + 25 → M1.2 q = M.2 q := fun q hq => he q (by omega) (by omega)
  have hB : ∀ q, A + 85 ≤ q → q < M.1 → M1.2 q = M.2 q := fun q hq hq2 => he q hq2 (by omega)
  have l4 := h04.2
  have l5 := h05.2
  refine ⟨g1_e h01 (hA _ (by omega)) (fun q q0 q1 => hA _ (by omega)), g2_e h02 (fun q q0 q1 => hA _ (by omega)), g3_e h03 (fun q q0 q1 => hA _ (by omega)), g4_e h04 h1 (fun q q0 q1 => ?_), g5_e h05 h1 (fun q q0 q1 => ?_), g6_e h06 h1 (fun l q l0 l1 q0 q1 => ?_), g7_e h07 h1 (fun w q w0 w1 q0 q1 => ?_), g8_e h08 (fun q hq => he q (by omega) (by omega)), hg_mv h09 h1 (he _ (by omega) (by omega)) (he _ (by omega) (by omega)) (fun j b q j0 j1 jb q0 q1 => ?_), g10_e h10 (fun q q0 q1 => he q (by omega) (by omega)), g11_e h11 (fun q q0 q1 => he q (by omega) (by omega)), (he _ (by omega) (by omega)).trans h12, h14o⟩
  · have := l4.1
    unfold lhA at this
    by_cases e : q < A + 25
    · exact hA q e
    · exact hB q (by omega) (by omega)
  · by_cases e : q < A + 25
    · exact hA q e
    · exact hB q (by omega) (by omega)
  · obtain ⟨-, -, a3, a4, -⟩ := h06 l l0 l1
    unfold lhA at a3
    by_cases e : q < A + 25
    · exact hA q e
    · exact hB q (by omega) (by omega)
  · have a := (h07.1 w w0 w1).2.2.1
    have b := (h07.2 w w0 w1).1
    by_cases e : q < A + 25
    · exact hA q e
    · exact hB q (by omega) (by omega)
  · have := pgb h09 j0 j1 jb
    exact hB q (by omega) (by omega)

theorem lc_hand (hg : sk_ok g) (hok : lh_ok g) (hd : 127 ≤ d) (hN2 : N ≤ 3072) (hi : ∀ j, i32 (scr j)) (hck : 90 ≤ ck) (hsk' : 8580 ≤ sk) (hJ : J g A bs N scr k M) (h5 : k < 512) (h0 : 0 ≤ k) (hN : 6 * k + 6 ≤ N) (hn : ∀ M2, J g A bs N scr (k + 1) M2 → sk_B (g, d, ck - 90, sk - 8580, xL_law, Q) 1655 (lL A bs (6 * k)) [] M2) : sk_B (g, d, ck, sk, xL_law, Q) 389 (lL A bs (6 * k)) [] M := by
  obtain ⟨hs, hA0⟩ := j_see hJ
  obtain ⟨ra, rb, nl, nw, R, H, R2, H2, T, f, f2, nc, nle, ni, rf, b1, b2, hands, h2, sc, dr, n, i, lc, wn, ho, next, kept, has, nm, lawF, wrF, pgs, lad, wad, qs, sg, ln, pl, ss, lg, size, lines, longest, letters, cnt, c, ci, nh, S, Y, hX, ht, hm, hR, h21⟩ := hJ
  obtain ⟨⟨B0, B4⟩, Bru, ⟨Bl0, Bl1⟩, ⟨Bc0, Bc1⟩, ⟨E23, E27, E22⟩, E0, ⟨W0, W6⟩⟩ := jd_bounds hX hR
  obtain ⟨⟨hx, hx2⟩, G2, ⟨hsh, ⟨L0, L4⟩, W06, L9⟩, G4, G5, G6, ⟨hws, hwa⟩, ⟨hP, hL⟩, hh, ⟨hI, hIL⟩, hNo, hr, ⟨hst, hsb, hsk, hscr, hout, hA⟩⟩ := id hX
  obtain ⟨r1, ⟨r2, r2'⟩, r3, ⟨r4, r4'⟩, ⟨r5, r5'⟩, ⟨r6, r61, r62, r63⟩, ⟨⟨r7, r7a, r7b⟩, r71, r72, r73, r74, r75⟩, r8, r9⟩ := id hR
  obtain ⟨⟨Y0, Y1', Y2⟩, -⟩ := id r1
  obtain ⟨q1, q2, ⟨q3, q4, q5⟩, q6, q7, q8, hk⟩ := id r3
  have rX := jd_rx hX hR
  have hwl := jd_wl hR
  have hH := jd_xH hR
  refine tL_law_389 _ _ _ ?_
  have hn' := hn
  unfold lL
  simp (disch := omega) only [kL_law_389, po_hnd, po_iload, po_aload, po_i, po_iadd, po_iaload, sk_nth, sk_w_id, sk_I_at, hs, lc_30, true_and]
  refine ⟨by omega, by omega, by omega, by omega, by decide, by omega, by omega, by omega, ?_⟩
  obtain ⟨v0, hv0⟩ := hout
  by_cases hc : 0 ≤ scr (6 * k + 1) ∧ scr (6 * k + 1) < hands ∧ 0 ≤ scr (6 * k + 2) ∧ scr (6 * k + 2) ≤ 3
  · have hX1 : JX g (M.1, va_up M.2 (A + 84) (22, 1, fun _ => .inr (.inl (sk_w (x_hnd H c.1 c.2.1 (scr (6 * k + 1)) (scr (6 * k + 2))))))) A bs N scr ra rb nl nw R H R2 H2 T f f2 nc nle ni rf b1 b2 hands h2 sc dr n i lc wn ho next kept has nm lawF wrF pgs lad wad qs sg ln pl ss lg size lines longest letters cnt c ci := JX_out hX (Nat.le_refl _) (fun q _ hq => va_up_ne _ _ hq) (va_up_self _ _ _)
    have E : x_hnd H c.1 c.2.1 (scr (6 * k + 1)) (scr (6 * k + 2)) = mo_hd S Y (scr (6 * k + 1)) (scr (6 * k + 2)) := by
      unfold x_hnd mo_hd
      by_cases e : scr (6 * k + 2) < 2
      · rw [if_pos e, if_pos e]
        exact ((r8.2.2.1 _ (by omega) (by omega)).1).symm
      · rw [if_neg e, if_neg e, E23]
        by_cases e2 : scr (6 * k + 2) = 2
        · rw [if_pos e2, e2]; exact pr_lay q1 Bc0 Bc1 _
        · rw [if_neg e2, show scr (6 * k + 2) - 2 = 1 by omega]; exact pr_str q1 Bc0 Bc1 _
    refine lh_norm (v0 := v0) (Nat.le_sub_of_add_le (Nat.le_trans (by decide) hd)) hg hA0 hv0 (fun Q' hq => c_handN (Nat.le_sub_of_add_le (Nat.le_sub_of_add_le (Nat.le_trans (by decide) hd))) hx hP hk hc hq) ?_
    refine lc_handT hd hX1 (tm_e ht (fun q hq => va_up_ne _ _ (by omega))) (md_e hm (fun q q0 q1 => va_up_ne _ _ (by omega))) hR h21 rX E22 B0 B4 h5 h0 hN hN2 hi hX1.2.2.2.2.2.2.2.2.2.2.2.2.2.2.2.1.1 (va_up_self _ _ _) (Or.inr ⟨rfl, hc, by rw [E]⟩) hn'
  · refine lh_catch (Nat.le_sub_of_add_le (Nat.le_trans (by decide) hd)) (by decide) (by decide) hg hok hx (hi _) (hi _) hc (fun nn hnn => ?_)
    have hX1 : JX g (nn, M.2) A bs N scr ra rb nl nw R H R2 H2 T f f2 nc nle ni rf b1 b2 hands h2 sc dr n i lc wn ho next kept has nm lawF wrF pgs lad wad qs sg ln pl ss lg size lines longest letters cnt c ci := JX_e hX hnn (fun _ _ _ => rfl)
    refine lc_handT hd hX1 (tm_e ht (fun _ _ => rfl)) (md_e hm (fun _ _ _ => rfl)) hR h21 rX E22 B0 B4 h5 h0 hN hN2 hi hs hv0 (Or.inl ⟨rfl, hc⟩) hn'
end JHAND
