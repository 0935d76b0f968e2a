/-! ===== both sides at once: writings written; acts undone; images; small ones ===== -/
section JACTB
variable {g : sk_G} {d ck sk : Nat} {M M1 : sk_M} {Q : sk_P} {A bs N : Nat} {scr : Int → Int} {k : Int} {x1 x2 x3 x4 : Int} {ra rb nl nw : Nat} {R H R2 H2 T f f2 nc nle ni rf : Int → Int} {b1 b2 : Bool} {hands h2 sc dr n i lc wn ho next kept has nm : Int} {lawF wrF pgs : Int → Option Nat} {lad wad : Int → Nat} {qs : Int → List lq_C} {sg ln pl ss lg : Int → Int → Int} {size lines longest letters : Int → Int} {cnt : Int → hC} {c ci : hC} {nh : Int} {S : Nat → Int} {Y : Nat → Int → Int}
theorem jw_room {x2 x3 x4 : Int} {ly hs : Int → Int} {W spot : Int} {w : Int} : x_room W (sg w) (ln w) (pl w) (size w) spot hs = 0 ↔ ¬ x_room W (sg w) (ln w) (pl w) (size w) spot hs = 1 := by
  have := x_room_in W (sg w) (ln w) (pl w) (size w) spot hs
  omega
theorem sta_of (h : ∀ k, k < 6 → g.2.2.2.2 k < A) : sta g A := ⟨h 2 (by omega), h 3 (by omega), h 4 (by omega), h 5 (by omega)⟩
set_option maxHeartbeats 1000000 in
theorem j_write (hd : 125 ≤ d) (hck : 90 ≤ ck) (hsk' : 8580 ≤ sk) (hJ : J g A bs N scr k M) (h5 : k < 512) (a1 : i32 x1) (a2 : i32 x2) (a3 : i32 x3) (a4 : i32 x4) (hQ : ∀ v M1, JM g A bs N scr (k + 1) xX12_write [.inl x1, .inl x2, .inl x3, .inl x4] v M1 → Q (some (.inl v)) M1) : sk_call g d ck sk xX11_write [.inr (.inr (some A)), .inl x1, .inl x2, .inl x3, .inl x4] M Q := by
  obtain ⟨ra, rb, nl, nw, R, H, R2, H2, T, f, f2, nc, nle, ni, rf, b1, b2, hands, h2, sc, dr, n, i, lc, wn, ho, next, kept, has, nm, lawF, wrF, pgs, lad, wad, qs, sg, ln, pl, ss, lg, size, lines, longest, letters, cnt, c, ci, nh, S, Y, hX, ht, hm, hR, h21⟩ := hJ
  obtain ⟨⟨B0, B4⟩, Bru, ⟨Bl0, Bl1⟩, ⟨Bc0, Bc1⟩, ⟨E23, E27, E22⟩, E0, ⟨W0, W6⟩⟩ := jd_bounds hX hR
  obtain ⟨⟨hx, hx2⟩, G2, ⟨hsh, ⟨L0, L4⟩, W06, L9⟩, G4, G5, G6, ⟨hws, hwa⟩, ⟨hP, hL⟩, hh, ⟨hI, hIL⟩, hNo, hr, ⟨hst, hsb, hsk, hscr, hout, hA⟩⟩ := id hX
  obtain ⟨r1, ⟨r2, r2'⟩, r3, ⟨r4, r4'⟩, ⟨r5, r5'⟩, ⟨r6, r61, r62, r63⟩, ⟨⟨r7, r7a, r7b⟩, r71, r72, r73, r74, r75⟩, r8, r9⟩ := id hR
  obtain ⟨⟨Y0, Y1', Y2⟩, -⟩ := id r1
  obtain ⟨q1, q2, ⟨q3, q4, q5⟩, q6, q7, q8, hk⟩ := id r3
  have rX := jd_rx hX hR
  have hwl := jd_wl hR
  have hH := jd_xH hR
  obtain ⟨hrb, hro⟩ := jd_rfb hR
  have e18 : va_up Y 18 (Y 18) = Y := by funext j; unfold va_up; split <;> simp_all
  have spt : (4 * x3 + x4) / 4 = x3 + x4 / 4 ∧ (4 * x3 + x4) % 4 = x4 % 4 := by omega
  -- where it does
  have hdo : 0 < hands → 0 ≤ x1 → x1 < wn → 0 ≤ x3 → x3 < R 0 * R 1 → 0 ≤ x4 → x4 ≤ 3 → (mo_does Y x1 x3 x4 = 1 ↔ rd_does (R 0) (R 1) (lines x1) (longest x1) (4 * x3 + x4) = true) := fun z0 z1 z2 z3 z4 z5 z6 => by
    have := bw_does (spot := 4 * x3 + x4) r1 z1 z2 (hH.2.1 z0) (by omega) (by omega)
    rw [spt.1, spt.2, show x3 + x4 / 4 = x3 by omega, show x4 % 4 = x4 by omega] at this
    exact this
  have hfu : 0 ≤ x1 → x1 < wn → 0 ≤ x4 → x4 ≤ 3 → rd_does (R 0) (R 1) (lines x1) (longest x1) (4 * x3 + x4) = true → (mo_full Y x1 x3 x4 = 0 ↔ x_room (R 0) (sg x1) (ln x1) (pl x1) (size x1) (4 * x3 + x4) c.2.1 = 1) := fun z1 z2 z5 z6 z7 => by
    have := full_eq (nw := Y 18) r1 z1 z2 z7 q1
    rw [e18, spt.1, spt.2, show x3 + x4 / 4 = x3 by omega, show x4 % 4 = x4 by omega] at this
    exact this
  have e : x_ww R hands c.2.2.1 wn sg ln pl size lines longest c.2.1 x1 x2 x3 x4 = mo_ww S Y x1 x2 x3 x4 := by
    unfold x_ww mo_ww
    rw [q3, E23, E27, E22]
    rw [E23] at E0
    refine ite_c2 (by omega) (fun _ => rfl) (fun z0 => ?_)
    have hd1 := mo_does_in Y x1 x3 x4
    refine ite_c2 ?_ (fun _ => rfl) (fun z1 => ?_)
    · by_cases y : x3 < 0 ∨ R 0 * R 1 ≤ x3 ∨ x4 < 0 ∨ 3 < x4
      · exact ⟨fun _ => by omega, fun _ => by omega⟩
      · have := hdo (by omega) (by omega) (by omega) (by omega) (by omega) (by omega) (by omega)
        by_cases y2 : rd_does (R 0) (R 1) (lines x1) (longest x1) (4 * x3 + x4) = true
        · have := this.2 y2
          exact ⟨fun q => by rcases q with q | q | q | q | q <;> first | omega | exact (q y2).elim, fun q => by omega⟩
        · have t : ¬ mo_does Y x1 x3 x4 = 1 := fun q => y2 (this.1 q)
          exact ⟨fun _ => by omega, fun _ => Or.inr (Or.inr (Or.inr (Or.inr y2)))⟩
    · have y2 : rd_does (R 0) (R 1) (lines x1) (longest x1) (4 * x3 + x4) = true := by
        by_cases y2 : rd_does (R 0) (R 1) (lines x1) (longest x1) (4 * x3 + x4) = true
        · exact y2
        · exact (z1 (Or.inr (Or.inr (Or.inr (Or.inr y2))))).elim
      have fu := hfu (by omega) (by omega) (by omega) (by omega) y2
      have f2 := mo_full_in Y x1 x3 x4
      have f3 := x_room_in (R 0) (sg x1) (ln x1) (pl x1) (size x1) (4 * x3 + x4) c.2.1
      have lm := lm_eq r1 (show 0 ≤ x1 by omega) (show x1 < wn by omega)
      exact ite_c2 (by omega) (fun _ => rfl) (fun _ => rfl)
  have hl4 : ∀ w, 0 ≤ w → w < S 27 → ∀ k, 0 ≤ k → k < 4 → 0 ≤ Y 17 (4 * w + k) ∧ Y 17 (4 * w + k) < 100 := hwl.2.2.2.2.2
  have k33 : 0 ≤ S 33 ∧ S 33 ≤ 40 := by rw [r4']; exact ⟨hh.2.1.2.2.1, hh.2.1.2.2.2.1⟩
  have o760 : 0 ≤ Y 18 760 ∧ Y 18 760 ≤ 999 := by rw [q3]; exact q7
  have h22 : 0 ≤ S 22 ∧ S 22 ≤ 4 ∧ S 22 ≤ nh := by rw [E22]; exact ⟨B0, B4, r8.2.2.2.2.1.1⟩
  refine x_write (Nat.le_trans (by decide) hd) (Nat.le_trans (by decide) hck) (Nat.le_trans (by decide) hsk') hA hst (sta_of hsk) hx hH.1 hsh W0 W6 hws (fun w w0 w1 => (hwa w w0 w1).1) hP hk hh hr hro q7.1 q7.2 a1 a2 a3 a4 (fun z0 z1 z2 => hQ _ _ (JM_rf hX ht hm hR h5 h21 z1 z2 (fun d Q M1 hd hm1 hq => ?_))) (fun z M' pgs' cnt' hkf hkc hh' hP' hk' => ?_)
  · refine m_write (nh := nh) (Nat.le_trans (by decide) hd) hm1 rX hrb h22.1 h22.2.1 k33.1 k33.2 r8.2.2.2.2.2 h22.2.2 hwl.2.2.2.1 hl4 o760.1 o760.2 a1 a2 a3 a4 (fun _ _ _ M2 hm2 => hq M2 (by rw [e]; exact hm2)) (fun z => (z0 (by rw [e]; exact z)).elim)
  · obtain ⟨X, hXd⟩ : ∃ X, X = x_wl R H sg ln pl size x1 x2 x3 x4 c.1 c.2.1 := ⟨_, rfl⟩
    have zb : (0 ≤ x1 ∧ x1 < wn) ∧ (0 ≤ x2 ∧ x2 < hands) ∧ (0 ≤ x3 ∧ x3 < R 0 * R 1) ∧ (0 ≤ x4 ∧ x4 ≤ 3) ∧ rd_does (R 0) (R 1) (lines x1) (longest x1) (4 * x3 + x4) = true ∧ lines x1 ≤ c.2.2.1 ∧ x_room (R 0) (sg x1) (ln x1) (pl x1) (size x1) (4 * x3 + x4) c.2.1 = 1 := by
      unfold x_ww at z
      split at z
      · omega
      · next y1 =>
        split at z
        · omega
        · next y2 =>
          split at z
          · omega
          · next y3 =>
            have f3 := x_room_in (R 0) (sg x1) (ln x1) (pl x1) (size x1) (4 * x3 + x4) c.2.1
            refine ⟨by omega, by omega, by omega, by omega, ?_, by omega, by omega⟩
            by_cases y4 : rd_does (R 0) (R 1) (lines x1) (longest x1) (4 * x3 + x4) = true
            · exact y4
            · exact (y2 (Or.inr (Or.inr (Or.inr (Or.inr y4))))).elim
    obtain ⟨zb1, zb2, zb3, zb4, zb5, zb6, zb7⟩ := zb
    have hs2 := rX.1 (E0.2 (by omega))
    have wk := wg_ok r1 zb1.1 zb1.2
    have wr := r1.2.2.2.2.2 x1 zb1.1 zb1.2
    have sz := bw_size r1 zb1.1 zb1.2
    have ln1 := wr.2.2.2.2.1
    have lm := lm_eq r1 zb1.1 zb1.2
    have ink : Y 14 (2 * x2) = H (2 * x2) ∧ 1 ≤ H (2 * x2) ∧ H (2 * x2) ≤ 9 := by
      have a := r8.2.2.1 (2 * x2) (by omega) (by omega)
      have b := r8.2.2.2.1 x2 zb2.1 zb2.2
      omega
    have does1 := (hdo (by omega) zb1.1 zb1.2 zb3.1 zb3.2 zb4.1 zb4.2).2 zb5
    have full0 := (hfu zb1.1 zb1.2 zb4.1 zb4.2 zb5).2 zb7
    have hat : ∀ k, 0 ≤ k → k < Y 16 x1 → 0 ≤ mo_at Y x1 k x3 x4 := fun k k0 k1 => by
      have a := mo_does_1 does1 k k0 k1
      have cc := (mo_cell_in (W := Y 13 0) (Hh := Y 13 1) (line := Y 15 (3 * (16 * x1 + k) + 1)) (i := Y 15 (3 * (16 * x1 + k) + 2)) (l := x3) (way := x4) hs2.1 hs2.2.1 hs2.2.2.1 hs2.2.2.2).1
      change -1 ≤ mo_at Y x1 k x3 x4 at cc
      omega
    rw [← hXd] at hP' hk' ⊢
    obtain ⟨hX1, t1, m1⟩ := JX_act (c' := (X.1, X.2, c.2.2.1 - lines x1, c.2.2.2.1, c.2.2.2.2.1, c.2.2.2.2.2)) hX hkf (fun q e => by omega) hh' hP'
    have pe : pr (R 0 * R 1) hands c.1 c.2.1 (sk_up (Y 18) 760 (Y 18 760 - mo_lm Y x1)) := pr_hi q1 (fun j j0 j1 => sk_up_ne _ _ (by omega))
    have le := ld_eq (hd := x2) (ink := H (2 * x2)) r1 zb1.1 zb1.2 zb5 zb2.1 zb2.2 B4 ink.2.1 ink.2.2 (size x1).toNat 0 (c.1, c.2.1) _ (by omega) (by omega) pe (fun j j0 j1 ej => room_iff.mp zb7 j j0 (by omega) ej)
    rw [spt.1, spt.2, show x3 + x4 / 4 = x3 by omega, show x4 % 4 = x4 by omega] at le
    have hm0 : mn_ok (sk_up (Y 18) 760 (Y 18 760 - mo_lm Y x1)) := mn_hi q6.1 (by omega)
    have e9 : sk_fd (m_wr Y x1 x2 x3 x4 (H (2 * x2))) 0 (size x1).toNat (sk_up (Y 18) 760 (Y 18 760 - mo_lm Y x1)) = mo_wn Y x1 x2 x3 x4 := by unfold mo_wn; rw [ink.1, wr.1.1]
    have mi := m_wr_hi (Y := Y) (w := x1) (h := x2) (l := x3) (way := x4) (ink := H (2 * x2)) (nw := sk_up (Y 18) 760 (Y 18 760 - mo_lm Y x1)) hs2 wk.2.1 hm0 zb4.1 zb4.2 hat (fun k k0 k1 hk1 => by
      rw [sk_up_ne _ _ (by
        have := (mo_cell_in (W := Y 13 0) (Hh := Y 13 1) (line := Y 15 (3 * (16 * x1 + k) + 1)) (i := Y 15 (3 * (16 * x1 + k) + 2)) (l := x3) (way := x4) hs2.1 hs2.2.1 hs2.2.2.1 hs2.2.2.2).2.1
        change mo_at Y x1 k x3 x4 < 40 at this
        omega)]
      exact mo_full_0 full0 k k0 k1 hk1) (size x1).toNat (by rw [wr.1.1]; omega)
    have ngn := ng_wr (nh := nh) (Y := Y) (w := x1) (h := x2) (l := x3) (way := x4) (ink := H (2 * x2)) hs2 wk.1 zb2.1 (by have := h22.2.2; omega) (by omega) ink.2.2 (size x1).toNat 0 (sk_up (Y 18) 760 (Y 18 760 - mo_lm Y x1)) (by omega) (by rw [wr.1.1]; omega) (ng_hi q6.2.1 (by omega)) (fun k k0 k1 => hat k k0 (by rw [wr.1.1]; omega))
    rw [e9] at le mi ngn
    have le' : pr (R 0 * R 1) hands X.1 X.2 (mo_wn Y x1 x2 x3 x4) := by rw [hXd]; exact le
    refine hQ _ M' (JM_m hX1 (t1 ht) (m1 S Y hm) (fun d Q hd hq => ?_))
    refine m_write (nh := nh) (Nat.le_trans (by decide) hd) (m1 S Y hm) rX hrb h22.1 h22.2.1 k33.1 k33.2 r8.2.2.2.2.2 h22.2.2 hwl.2.2.2.1 hl4 o760.1 o760.2 a1 a2 a3 a4 (fun y => (y (by rw [← e]; exact z)).elim) (fun z' M2 fk n' hkp hmn hm2 => ?_)
    rw [r4'] at hkp
    obtain ⟨en, hh2⟩ := hrl_keep Bc0 hh.2.1.1 hh.2.1.2.1 hh.2.1.2.2.1 hh.2.1.2.2.2.1 r4 r3 hkc hkp
    have hi : ∀ j, 761 ≤ j → (mo_wn Y x1 x2 x3 x4) j = Y 18 j := fun j hj => by rw [mi.1 j (by omega), sk_up_ne _ _ (by omega)]
    have hw : wx nh (mo_wn Y x1 x2 x3 x4) 999 := ⟨hmn, ngn, by rw [hi 761 (by omega)]; exact q6.2.2.1, by rw [hi 761 (by omega)]; exact q6.2.2.2.1, by rw [hi 762 (by omega)]; exact q6.2.2.2.2⟩
    have hs : sn (R 0 * R 1) hands nh f (X.1, X.2, c.2.2.1 - lines x1, c.2.2.2.1, c.2.2.2.2.1, c.2.2.2.2.2) (mo_wn Y x1 x2 x3 x4) := ⟨le', fun a b a0 a1 b0 b2 => by rw [hi _ (by have := q6.2.2.2.2.2; omega)]; exact q2 a b a0 a1 b0 b2, ⟨by rw [mi.1 760 (by omega), sk_up_self, q3, lm], by rw [hi 761 (by omega)]; exact q4, by rw [hi 762 (by omega)]; exact q5⟩, hw, ⟨by simp only []; omega, by have := q7.2; simp only []; omega⟩, q8, hk'⟩
    have r := hq M2 _ _ nh hm2 (JR_act (c' := (X.1, X.2, c.2.2.1 - lines x1, c.2.2.2.1, c.2.2.2.2.1, c.2.2.2.2.2)) hR h5 (fun j _ hj => va_up_ne _ _ hj) (fun j _ h18 h20 => by rw [va_up_ne _ _ h18, va_up_ne _ _ h20]) hs (hrl_sl hh2 (by omega)) (by rw [va_up_self]; exact en) (by simp only []; omega)) h21
    rw [E23, ← pr_all le' Bc0 Bc1]
    exact r
end JACTB
