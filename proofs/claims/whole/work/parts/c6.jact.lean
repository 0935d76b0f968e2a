/-! ===== both sides at once: acts ===== -/
section JACT
variable {g : sk_G} {d ck sk : Nat} {M : sk_M} {Q : sk_P} {A bs N : Nat} {scr : Int → Int} {k : Int} {x1 x2 x3 x4 : Int}
theorem j_give (hd : 125 ≤ d) (hck : 90 ≤ ck) (hsk' : 8580 ≤ sk) (hJ : J g A bs N scr k M) (h5 : k < 512) (a1 : i32 x1) (hQ : ∀ v M1, JM g A bs N scr (k + 1) xX12_give [.inl x1] v M1 → Q (some (.inl v)) M1) : sk_call g d ck sk xX11_give [.inr (.inr (some A)), .inl x1] M Q := by
  obtain ⟨ra, rb, nl, nw, R, H, R2, H2, T, f, f2, nc, nle, ni, rf, b1, b2, hands, h2, sc, dr, n, i, lc, wn, ho, next, kept, has, nm, lawF, wrF, pgs, lad, wad, qs, sg, ln, pl, ss, lg, size, lines, longest, letters, cnt, c, ci, nh, S, Y, hX, ht, hm, hR, h21⟩ := hJ
  obtain ⟨⟨B0, B4⟩, Bru, ⟨Bl0, Bl1⟩, ⟨Bc0, Bc1⟩, ⟨E23, E27, E22⟩, E0, ⟨W0, W6⟩⟩ := jd_bounds hX hR
  obtain ⟨⟨hx, hx2⟩, G2, ⟨hsh, ⟨L0, L4⟩, W06, L9⟩, G4, G5, G6, ⟨hws, hwa⟩, ⟨hP, hL⟩, hh, ⟨hI, hIL⟩, hNo, hr, ⟨hst, hsb, hsk, hscr, hout, hA⟩⟩ := id hX
  obtain ⟨r1, ⟨r2, r2'⟩, r3, ⟨r4, r4'⟩, ⟨r5, r5'⟩, ⟨r6, r61, r62, r63⟩, ⟨⟨r7, r7a, r7b⟩, r71, r72, r73, r74, r75⟩, r8, r9⟩ := id hR
  obtain ⟨⟨Y0, Y1', Y2⟩, -⟩ := id r1
  obtain ⟨q1, q2, ⟨q3, q4, q5⟩, q6, q7, q8, hk⟩ := id r3
  have rX := jd_rx hX hR
  have hwl := jd_wl hR
  have hH := jd_xH hR
  obtain ⟨hrb, hro⟩ := jd_rfb hR
  have e : x_gw hands c.2.2.1 x1 = mo_gw S Y x1 := by
    unfold x_gw mo_gw
    rw [q3]
    exact ite_c2 (by have := rX.2.1; omega) (fun _ => rfl) (fun _ => rfl)
  refine x_give (Nat.le_trans (by decide) hd) (Nat.le_trans (by decide) hck) (Nat.le_trans (by decide) hsk') hA hx hP hh hr hro q7.1 q7.2 a1 (fun z0 z1 z2 => hQ _ _ (JM_rf hX ht hm hR h5 h21 z1 z2 (fun d Q M1 hd hm1 hq => ?_))) (fun z M' pgs' cnt' hkf hkc hh' hP' => ?_)
  · refine m_give (Nat.le_trans (by decide) hd) hm1 rX.2.1 rX.2.2.1 hrb (by rw [r4']; exact hh.2.1.2.2.1) (by rw [r4']; exact hh.2.1.2.2.2.1) (by rw [q3]; exact q7.1) (by rw [q3]; exact q7.2) a1 (fun _ _ _ M2 hm2 => hq M2 (by rw [e]; exact hm2)) (fun z => (z0 (by rw [e]; exact z)).elim)
  · obtain ⟨hX1, t1, m1⟩ := JX_act (c' := (c.1, c.2.1, c.2.2.1 + x1, c.2.2.2.1, c.2.2.2.2.1, c.2.2.2.2.2)) hX hkf (fun q e => by omega) hh' hP'
    refine hQ _ M' (JM_m hX1 (t1 ht) (m1 S Y hm) (fun d Q hd hq => ?_))
    refine m_give (Nat.le_trans (by decide) hd) (m1 S Y hm) rX.2.1 rX.2.2.1 hrb (by rw [r4']; exact hh.2.1.2.2.1) (by rw [r4']; exact hh.2.1.2.2.2.1) (by rw [q3]; exact q7.1) (by rw [q3]; exact q7.2) a1 (fun y => (y (by rw [← e]; exact z)).elim) (fun z' M2 fk n' hkp hm2 => ?_)
    rw [r4'] at hkp
    obtain ⟨en, hh2⟩ := hrl_keep Bc0 hh.2.1.1 hh.2.1.2.1 hh.2.1.2.2.1 hh.2.1.2.2.2.1 r4 r3 hkc hkp
    have bx : 1 ≤ x1 ∧ c.2.2.1 + x1 ≤ 999 := by
      unfold x_gw at z
      split at z
      · omega
      · split at z
        · omega
        · omega
    have hw : wx nh (sk_up (Y 18) 760 (Y 18 760 + x1)) 999 := ⟨mn_hi q6.1 (by omega), ng_hi q6.2.1 (by omega), by rw [sk_up_ne _ _ (by omega)]; exact q6.2.2.1, by rw [sk_up_ne _ _ (by omega)]; exact q6.2.2.2.1, by rw [sk_up_ne _ _ (by omega)]; exact q6.2.2.2.2⟩
    have hs : sn (R 0 * R 1) hands nh f (c.1, c.2.1, c.2.2.1 + x1, c.2.2.2.1, c.2.2.2.2.1, c.2.2.2.2.2) (sk_up (Y 18) 760 (Y 18 760 + x1)) := ⟨pr_hi q1 (fun j j0 j1 => sk_up_ne _ _ (by omega)), fun a b a0 a1 b0 b2 => by rw [sk_up_ne _ _ (by have := q6.2.2.2.2.2; omega)]; exact q2 a b a0 a1 b0 b2, ⟨by rw [sk_up_self, q3], by rw [sk_up_ne _ _ (by omega)]; exact q4, by rw [sk_up_ne _ _ (by omega)]; exact q5⟩, hw, ⟨by have := q7.1; simp only []; omega, bx.2⟩, q8, hk⟩
    have r := hq M2 _ _ nh hm2 (JR_act (c' := (c.1, c.2.1, c.2.2.1 + x1, c.2.2.2.1, c.2.2.2.2.1, c.2.2.2.2.2)) hR h5 (fun j _ hj => va_up_ne _ _ hj) (fun j _ h18 h20 => by rw [va_up_ne _ _ h18, va_up_ne _ _ h20]) hs (hrl_sl hh2 (by omega)) (by rw [va_up_self]; exact en) (by simp only []; omega)) h21
    rw [q3]
    exact r
theorem j_scrape (hd : 125 ≤ d) (hck : 90 ≤ ck) (hsk' : 8580 ≤ sk) (hJ : J g A bs N scr k M) (h5 : k < 512) (a1 : i32 x1) (a2 : i32 x2) (hQ : ∀ v M1, JM g A bs N scr (k + 1) xX12_scrape [.inl x1, .inl x2] v M1 → Q (some (.inl v)) M1) : sk_call g d ck sk xX11_scrape [.inr (.inr (some A)), .inl x1, .inl x2] M Q := by
  obtain ⟨ra, rb, nl, nw, R, H, R2, H2, T, f, f2, nc, nle, ni, rf, b1, b2, hands, h2, sc, dr, n, i, lc, wn, ho, next, kept, has, nm, lawF, wrF, pgs, lad, wad, qs, sg, ln, pl, ss, lg, size, lines, longest, letters, cnt, c, ci, nh, S, Y, hX, ht, hm, hR, h21⟩ := hJ
  obtain ⟨⟨B0, B4⟩, Bru, ⟨Bl0, Bl1⟩, ⟨Bc0, Bc1⟩, ⟨E23, E27, E22⟩, E0, ⟨W0, W6⟩⟩ := jd_bounds hX hR
  obtain ⟨⟨hx, hx2⟩, G2, ⟨hsh, ⟨L0, L4⟩, W06, L9⟩, G4, G5, G6, ⟨hws, hwa⟩, ⟨hP, hL⟩, hh, ⟨hI, hIL⟩, hNo, hr, ⟨hst, hsb, hsk, hscr, hout, hA⟩⟩ := id hX
  obtain ⟨r1, ⟨r2, r2'⟩, r3, ⟨r4, r4'⟩, ⟨r5, r5'⟩, ⟨r6, r61, r62, r63⟩, ⟨⟨r7, r7a, r7b⟩, r71, r72, r73, r74, r75⟩, r8, r9⟩ := id hR
  obtain ⟨⟨Y0, Y1', Y2⟩, -⟩ := id r1
  obtain ⟨q1, q2, ⟨q3, q4, q5⟩, q6, q7, q8, hk⟩ := id r3
  have rX := jd_rx hX hR
  have hwl := jd_wl hR
  have hH := jd_xH hR
  obtain ⟨hrb, hro⟩ := jd_rfb hR
  have e : x_sw R c.2.1 hands c.2.2.1 x1 x2 = mo_sw S Y x1 x2 := by
    unfold x_sw mo_sw
    rw [q3, Y0, Y1']
    refine ite_c2 (by have := rX.2.1; omega) (fun _ => rfl) (fun z0 => ite_c2 Iff.rfl (fun _ => rfl) (fun z1 => ?_))
    have jr := jrow Bru (show 0 ≤ x1 by omega) (show x1 < R 1 by omega)
    have es : sk_sm c.2.1 (x1 * R 0) (R 0).toNat = sk_sm (fun i => Y 18 (R 0 * x1 + i)) 0 (R 0).toNat := by
      have h2 : 2 ≤ R 0 := hH.2.1 (by omega)
      have sh := sk_sm_shift c.2.1 (x1 * R 0) (R 0).toNat 0
      rw [Int.add_zero] at sh
      rw [sh]
      refine sk_sm_congr _ _ (fun j j0 j1 => ?_)
      rw [Int.mul_comm (R 0) x1]
      exact ((q1.1 (x1 * R 0 + j) (by omega) (by omega)).1).symm
    rw [es]
  refine x_scrape (Nat.le_trans (by decide) hd) (Nat.le_trans (by decide) hck) (Nat.le_trans (by decide) hsk') hA hx hP hk hh hr hro q7.1 q7.2 a1 a2 (fun z0 z1 z2 => hQ _ _ (JM_rf hX ht hm hR h5 h21 z1 z2 (fun d Q M1 hd hm1 hq => ?_))) (fun z M' pgs' cnt' hkf hkc hh' hP' hk' => ?_)
  · refine m_scrape (Nat.le_trans (by decide) hd) hm1 rX hrb (by rw [r4']; exact hh.2.1.2.2.1) (by rw [r4']; exact hh.2.1.2.2.2.1) (by rw [q3]; exact q7.1) (by rw [q3]; exact q7.2) a1 a2 (fun _ _ _ M2 hm2 => hq M2 (by rw [e]; exact hm2)) (fun z => (z0 (by rw [e]; exact z)).elim)
  · obtain ⟨X, hXd⟩ : ∃ X, X = sk_fd (x_sc x2) (x1 * R 0) (R 0).toNat (c.1, c.2.1, 0) := ⟨_, rfl⟩
    have zb : hands ≠ 0 ∧ (0 ≤ x1 ∧ x1 < R 1) ∧ (1 ≤ x2 ∧ x2 ≤ 9) ∧ 1 ≤ c.2.2.1 := by
      unfold x_sw at z
      split at z
      · omega
      · split at z
        · omega
        · split at z
          · omega
          · split at z
            · omega
            · omega
    obtain ⟨zb1, zb2, zb3, zb4⟩ := zb
    have jr := jrow Bru zb2.1 zb2.2
    have hs2 := rX.1 (E0.2 (by omega))
    have rb := mo_rowb hs2 zb2.1 (by rw [Y1']; exact zb2.2)
    rw [← hXd] at hP' hk' ⊢
    obtain ⟨hX1, t1, m1⟩ := JX_act (c' := (X.1, X.2.1, c.2.2.1 - 1, c.2.2.2.1, c.2.2.2.2.1, c.2.2.2.2.2)) hX hkf (fun q e => by omega) hh' hP'
    have pe : pr (R 0 * R 1) hands c.1 c.2.1 (sk_up (Y 18) 760 (Y 18 760 - 1)) := pr_hi q1 (fun j j0 j1 => sk_up_ne _ _ (by omega))
    have prw := pr_row (W := R 0) (row := x1) (n := x2) pe (by omega) jr.1 jr.2.1
    rw [← hXd] at prw
    have mi := m_sc_hi (W := R 0) (n := x2) (r := R 0 * x1) (nw := sk_up (Y 18) 760 (Y 18 760 - 1)) (mn_hi q6.1 (by omega)).1 (by rw [Int.mul_comm]; exact jr.1) (by rw [Int.mul_comm (R 0) x1]; exact jr.2.1)
    have e9 : sk_fd (fun i => m_sc x2 (R 0 * x1 + i)) 0 (R 0).toNat (sk_up (Y 18) 760 (Y 18 760 - 1), 0) = mo_sn Y x1 x2 := by unfold mo_sn; rw [Y0]
    rw [e9] at prw mi
    have ngn : ng nh (mo_sn Y x1 x2).1 := by
      have := ng_scr (nh := nh) (W := Y 13 0) (row := x1) (n := x2) (by omega) (by omega) rb.1 rb.2 (Y 13 0).toNat 0 (sk_up (Y 18) 760 (Y 18 760 - 1), 0) (by omega) (by have := hs2.1; omega) (ng_hi q6.2.1 (by omega)) (mn_hi q6.1 (by omega))
      exact this
    refine hQ _ M' (JM_m hX1 (t1 ht) (m1 S Y hm) (fun d Q hd hq => ?_))
    refine m_scrape (Nat.le_trans (by decide) hd) (m1 S Y hm) rX hrb (by rw [r4']; exact hh.2.1.2.2.1) (by rw [r4']; exact hh.2.1.2.2.2.1) (by rw [q3]; exact q7.1) (by rw [q3]; exact q7.2) a1 a2 (fun y => (y (by rw [← e]; exact z)).elim) (fun z' M2 fk n' hkp hmn hm2 => ?_)
    rw [r4'] at hkp
    obtain ⟨en, hh2⟩ := hrl_keep Bc0 hh.2.1.1 hh.2.1.2.1 hh.2.1.2.2.1 hh.2.1.2.2.2.1 r4 r3 hkc hkp
    have hi : ∀ j, 761 ≤ j → (mo_sn Y x1 x2).1 j = Y 18 j := fun j hj => by rw [mi.2 j (by omega), sk_up_ne _ _ (by omega)]
    have hw : wx nh (mo_sn Y x1 x2).1 999 := ⟨hmn, ngn, by rw [hi 761 (by omega)]; exact q6.2.2.1, by rw [hi 761 (by omega)]; exact q6.2.2.2.1, by rw [hi 762 (by omega)]; exact q6.2.2.2.2⟩
    have hs : sn (R 0 * R 1) hands nh f (X.1, X.2.1, c.2.2.1 - 1, c.2.2.2.1, c.2.2.2.2.1, c.2.2.2.2.2) (mo_sn Y x1 x2).1 := ⟨prw.1, fun a b a0 a1 b0 b2 => by rw [hi _ (by have := q6.2.2.2.2.2; omega)]; exact q2 a b a0 a1 b0 b2, ⟨by rw [mi.2 760 (by omega), sk_up_self, q3], by rw [hi 761 (by omega)]; exact q4, by rw [hi 762 (by omega)]; exact q5⟩, hw, ⟨by simp only []; omega, by have := q7.2; simp only []; omega⟩, q8, hk'⟩
    have r := hq M2 _ _ nh hm2 (JR_act (c' := (X.1, X.2.1, c.2.2.1 - 1, c.2.2.2.1, c.2.2.2.2.1, c.2.2.2.2.2)) hR h5 (fun j _ hj => va_up_ne _ _ hj) (fun j _ h18 h20 => by rw [va_up_ne _ _ h18, va_up_ne _ _ h20]) hs (hrl_sl hh2 (by omega)) (by rw [va_up_self]; exact en) (by simp only []; omega)) h21
    rw [prw.2] at r
    exact r
end JACT
