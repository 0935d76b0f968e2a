/-! ===== both sides at once: what is asked, nothing tried out ===== -/
theorem ite_c2 {p q : Prop} [Decidable p] [Decidable q] {a a' b b' : Int} (h : p ↔ q) (h1 : p → a = a') (h2 : ¬ p → b = b') : (if p then a else b) = (if q then a' else b') := by
  by_cases z : p
  · rw [if_pos z, if_pos (h.1 z)]; exact h1 z
  · rw [if_neg z, if_neg (fun y => z (h.2 y))]; exact h2 z
section JQ
variable {g : sk_G} {d ck sk : Nat} {M : sk_M} {Q : sk_P} {A bs N : Nat} {scr : Int → Int} {k : Int} {x1 x2 x3 x4 : Int}
theorem j_rule (hd : 125 ≤ d) (hJ : J g A bs N scr k M) (h5 : k < 512) (a1 : i32 x1) (hQ : ∀ v M1, JM g A bs N scr (k + 1) xX12_rule [.inl x1] v M1 → Q (some (.inl v)) M1) : sk_call g d ck sk xX11_rule [.inr (.inr (some A)), .inl x1] M Q := by
  obtain ⟨ra, rb, nl, nw, R, H, R2, H2, T, f, f2, nc, nle, ni, rf, b1, b2, hands, h2, sc, dr, n, i, lc, wn, ho, next, kept, has, nm, lawF, wrF, pgs, lad, wad, qs, sg, ln, pl, ss, lg, size, lines, longest, letters, cnt, c, ci, nh, S, Y, hX, ht, hm, hR, h21⟩ := hJ
  obtain ⟨⟨B0, B4⟩, Bru, ⟨Bl0, Bl1⟩, ⟨Bc0, Bc1⟩, ⟨E23, E27, E22⟩, E0, ⟨W0, W6⟩⟩ := jd_bounds hX hR
  obtain ⟨⟨hx, hx2⟩, G2, ⟨hsh, ⟨L0, L4⟩, W06, L9⟩, G4, G5, G6, ⟨hws, hwa⟩, ⟨hP, hL⟩, hh, ⟨hI, hIL⟩, hNo, hr, ⟨hst, hsb, hsk, hscr, hout, hA⟩⟩ := id hX
  obtain ⟨r1, ⟨r2, r2'⟩, r3, ⟨r4, r4'⟩, ⟨r5, r5'⟩, ⟨r6, r61, r62, r63⟩, ⟨⟨r7, r7a, r7b⟩, r71, r72, r73, r74, r75⟩, r8, r9⟩ := id hR
  obtain ⟨⟨Y0, Y1', Y2⟩, -⟩ := id r1
  obtain ⟨q1, q2, ⟨q3, q4, q5⟩, q6, q7, q8, hk⟩ := id r3
  have rX := jd_rx hX hR
  have hwl := jd_wl hR
  have hH := jd_xH hR
  refine x_rule (by omega) hx hP a1 (hQ _ M (JM_q hX ht hm hR h5 h21 (fun d Q hd hq => ?_)))
  have e : (if hands = 0 ∨ x1 < 0 ∨ 3 < x1 then -1 else if x1 = 3 then c.2.2.1 else R x1) = (if S 23 = 0 ∨ x1 < 0 ∨ 3 < x1 then -1 else if x1 = 3 then Y 18 760 else Y 13 x1) := by
    refine ite_c2 (by omega) (fun _ => rfl) (fun z => ite_c2 Iff.rfl (fun _ => q3.symm) (fun z3 => ?_))
    have : x1 = 0 ∨ x1 = 1 ∨ x1 = 2 := by omega
    rcases this with rfl | rfl | rfl
    · exact Y0.symm
    · exact Y1'.symm
    · exact Y2.symm
  rw [e] at hq
  exact m_rule (by omega) hm (by omega) (by omega) a1 (hq M S Y hm (fun _ _ => rfl) (fun _ _ => rfl) h21)
theorem j_sign (hd : 125 ≤ d) (hJ : J g A bs N scr k M) (h5 : k < 512) (a1 : i32 x1) (a2 : i32 x2) (a3 : i32 x3) (hQ : ∀ v M1, JM g A bs N scr (k + 1) xX12_sign [.inl x1, .inl x2, .inl x3] v M1 → Q (some (.inl v)) M1) : sk_call g d ck sk xX11_sign [.inr (.inr (some A)), .inl x1, .inl x2, .inl x3] M Q := by
  obtain ⟨ra, rb, nl, nw, R, H, R2, H2, T, f, f2, nc, nle, ni, rf, b1, b2, hands, h2, sc, dr, n, i, lc, wn, ho, next, kept, has, nm, lawF, wrF, pgs, lad, wad, qs, sg, ln, pl, ss, lg, size, lines, longest, letters, cnt, c, ci, nh, S, Y, hX, ht, hm, hR, h21⟩ := hJ
  obtain ⟨⟨B0, B4⟩, Bru, ⟨Bl0, Bl1⟩, ⟨Bc0, Bc1⟩, ⟨E23, E27, E22⟩, E0, ⟨W0, W6⟩⟩ := jd_bounds hX hR
  obtain ⟨⟨hx, hx2⟩, G2, ⟨hsh, ⟨L0, L4⟩, W06, L9⟩, G4, G5, G6, ⟨hws, hwa⟩, ⟨hP, hL⟩, hh, ⟨hI, hIL⟩, hNo, hr, ⟨hst, hsb, hsk, hscr, hout, hA⟩⟩ := id hX
  obtain ⟨r1, ⟨r2, r2'⟩, r3, ⟨r4, r4'⟩, ⟨r5, r5'⟩, ⟨r6, r61, r62, r63⟩, ⟨⟨r7, r7a, r7b⟩, r71, r72, r73, r74, r75⟩, r8, r9⟩ := id hR
  obtain ⟨⟨Y0, Y1', Y2⟩, -⟩ := id r1
  obtain ⟨q1, q2, ⟨q3, q4, q5⟩, q6, q7, q8, hk⟩ := id r3
  have rX := jd_rx hX hR
  have hwl := jd_wl hR
  have hH := jd_xH hR
  refine x_sign (by omega) hx hsh W0 W6 hws hwl.1 a1 a2 a3 (hQ _ M (JM_q hX ht hm hR h5 h21 (fun d Q hd hq => ?_)))
  rw [sign_eq r1] at hq
  exact m_sign (by omega) hm (by omega) (by omega) hwl.2.2.2.2.1 a1 a2 a3 (hq M S Y hm (fun _ _ => rfl) (fun _ _ => rfl) h21)
theorem j_layer (hd : 125 ≤ d) (hJ : J g A bs N scr k M) (h5 : k < 512) (a1 : i32 x1) (a2 : i32 x2) (a3 : i32 x3) (hQ : ∀ v M1, JM g A bs N scr (k + 1) xX12_layer [.inl x1, .inl x2, .inl x3] v M1 → Q (some (.inl v)) M1) : sk_call g d ck sk xX11_layer [.inr (.inr (some A)), .inl x1, .inl x2, .inl x3] M Q := by
  obtain ⟨ra, rb, nl, nw, R, H, R2, H2, T, f, f2, nc, nle, ni, rf, b1, b2, hands, h2, sc, dr, n, i, lc, wn, ho, next, kept, has, nm, lawF, wrF, pgs, lad, wad, qs, sg, ln, pl, ss, lg, size, lines, longest, letters, cnt, c, ci, nh, S, Y, hX, ht, hm, hR, h21⟩ := hJ
  obtain ⟨⟨B0, B4⟩, Bru, ⟨Bl0, Bl1⟩, ⟨Bc0, Bc1⟩, ⟨E23, E27, E22⟩, E0, ⟨W0, W6⟩⟩ := jd_bounds hX hR
  obtain ⟨⟨hx, hx2⟩, G2, ⟨hsh, ⟨L0, L4⟩, W06, L9⟩, G4, G5, G6, ⟨hws, hwa⟩, ⟨hP, hL⟩, hh, ⟨hI, hIL⟩, hNo, hr, ⟨hst, hsb, hsk, hscr, hout, hA⟩⟩ := id hX
  obtain ⟨r1, ⟨r2, r2'⟩, r3, ⟨r4, r4'⟩, ⟨r5, r5'⟩, ⟨r6, r61, r62, r63⟩, ⟨⟨r7, r7a, r7b⟩, r71, r72, r73, r74, r75⟩, r8, r9⟩ := id hR
  obtain ⟨⟨Y0, Y1', Y2⟩, -⟩ := id r1
  obtain ⟨q1, q2, ⟨q3, q4, q5⟩, q6, q7, q8, hk⟩ := id r3
  have rX := jd_rx hX hR
  have hwl := jd_wl hR
  have hH := jd_xH hR
  refine x_layer (by omega) hx hP hk a1 a2 a3 (hQ _ M (JM_q hX ht hm hR h5 h21 (fun d Q hd hq => ?_)))
  rw [layer_eq q1 E23 Bc1] at hq
  exact m_layer (by omega) hm q6.1 (by omega) (by omega) a1 a2 a3 (hq M S Y hm (fun _ _ => rfl) (fun _ _ => rfl) h21)
theorem j_status (hd : 125 ≤ d) (hJ : J g A bs N scr k M) (h5 : k < 512) (a1 : i32 x1) (hQ : ∀ v M1, JM g A bs N scr (k + 1) xX12_status [.inl x1] v M1 → Q (some (.inl v)) M1) : sk_call g d ck sk xX11_status [.inr (.inr (some A)), .inl x1] M Q := by
  obtain ⟨ra, rb, nl, nw, R, H, R2, H2, T, f, f2, nc, nle, ni, rf, b1, b2, hands, h2, sc, dr, n, i, lc, wn, ho, next, kept, has, nm, lawF, wrF, pgs, lad, wad, qs, sg, ln, pl, ss, lg, size, lines, longest, letters, cnt, c, ci, nh, S, Y, hX, ht, hm, hR, h21⟩ := hJ
  obtain ⟨⟨B0, B4⟩, Bru, ⟨Bl0, Bl1⟩, ⟨Bc0, Bc1⟩, ⟨E23, E27, E22⟩, E0, ⟨W0, W6⟩⟩ := jd_bounds hX hR
  obtain ⟨⟨hx, hx2⟩, G2, ⟨hsh, ⟨L0, L4⟩, W06, L9⟩, G4, G5, G6, ⟨hws, hwa⟩, ⟨hP, hL⟩, hh, ⟨hI, hIL⟩, hNo, hr, ⟨hst, hsb, hsk, hscr, hout, hA⟩⟩ := id hX
  obtain ⟨r1, ⟨r2, r2'⟩, r3, ⟨r4, r4'⟩, ⟨r5, r5'⟩, ⟨r6, r61, r62, r63⟩, ⟨⟨r7, r7a, r7b⟩, r71, r72, r73, r74, r75⟩, r8, r9⟩ := id hR
  obtain ⟨⟨Y0, Y1', Y2⟩, -⟩ := id r1
  obtain ⟨q1, q2, ⟨q3, q4, q5⟩, q6, q7, q8, hk⟩ := id r3
  have rX := jd_rx hX hR
  have hwl := jd_wl hR
  have hH := jd_xH hR
  refine x_status (by omega) hx hr a1 (hQ _ M (JM_q hX ht hm hR h5 h21 (fun d Q hd hq => ?_)))
  have e : (if x1 < 0 ∨ 4 < x1 then -1 else rf x1) = (if x1 < 0 ∨ 4 < x1 then -1 else Y 19 x1) := by
    exact ite_c2 Iff.rfl (fun _ => rfl) (fun z => (r6 x1 (by omega) (by omega)).1.symm)
  rw [e] at hq
  exact m_status (by omega) hm a1 (hq M S Y hm (fun _ _ => rfl) (fun _ _ => rfl) h21)
theorem j_log (hd : 125 ≤ d) (hJ : J g A bs N scr k M) (h5 : k < 512) (a1 : i32 x1) (a2 : i32 x2) (hQ : ∀ v M1, JM g A bs N scr (k + 1) xX12_log [.inl x1, .inl x2] v M1 → Q (some (.inl v)) M1) : sk_call g d ck sk xX11_log [.inr (.inr (some A)), .inl x1, .inl x2] M Q := by
  obtain ⟨ra, rb, nl, nw, R, H, R2, H2, T, f, f2, nc, nle, ni, rf, b1, b2, hands, h2, sc, dr, n, i, lc, wn, ho, next, kept, has, nm, lawF, wrF, pgs, lad, wad, qs, sg, ln, pl, ss, lg, size, lines, longest, letters, cnt, c, ci, nh, S, Y, hX, ht, hm, hR, h21⟩ := hJ
  obtain ⟨⟨B0, B4⟩, Bru, ⟨Bl0, Bl1⟩, ⟨Bc0, Bc1⟩, ⟨E23, E27, E22⟩, E0, ⟨W0, W6⟩⟩ := jd_bounds hX hR
  obtain ⟨⟨hx, hx2⟩, G2, ⟨hsh, ⟨L0, L4⟩, W06, L9⟩, G4, G5, G6, ⟨hws, hwa⟩, ⟨hP, hL⟩, hh, ⟨hI, hIL⟩, hNo, hr, ⟨hst, hsb, hsk, hscr, hout, hA⟩⟩ := id hX
  obtain ⟨r1, ⟨r2, r2'⟩, r3, ⟨r4, r4'⟩, ⟨r5, r5'⟩, ⟨r6, r61, r62, r63⟩, ⟨⟨r7, r7a, r7b⟩, r71, r72, r73, r74, r75⟩, r8, r9⟩ := id hR
  obtain ⟨⟨Y0, Y1', Y2⟩, -⟩ := id r1
  obtain ⟨q1, q2, ⟨q3, q4, q5⟩, q6, q7, q8, hk⟩ := id r3
  have rX := jd_rx hX hR
  have hwl := jd_wl hR
  have hH := jd_xH hR
  have z := q6.2.2.2.2
  refine x_log' (by omega) hx hP hL (by omega) (by omega) q8 (by omega) a1 a2 (hQ _ M (JM_q hX ht hm hR h5 h21 (fun d Q hd hq => ?_)))
  have e : (if x1 < 0 ∨ c.2.2.2.2.2 ≤ x1 ∨ x2 < 0 ∨ 2 < x2 then -1 else f ((c.2.2.2.2.1 - 1 - x1) % 100 * 3 + x2)) = (if x1 < 0 ∨ Y 18 762 ≤ x1 ∨ x2 < 0 ∨ 2 < x2 then -1 else Y 18 (763 + 3 * (Y 18 762 - 1 - x1) + x2)) := by
    rw [q5]
    exact ite_c2 Iff.rfl (fun _ => rfl) (fun z => (q2 x1 x2 (by omega) (by omega) (by omega) (by omega)).symm)
  rw [e] at hq
  exact m_log (by omega) hm (by omega) (by omega) a1 a2 (hq M S Y hm (fun _ _ => rfl) (fun _ _ => rfl) h21)
theorem j_shows (hd : 125 ≤ d) (hJ : J g A bs N scr k M) (h5 : k < 512) (a1 : i32 x1) (hQ : ∀ v M1, JM g A bs N scr (k + 1) xX12_shows [.inl x1] v M1 → Q (some (.inl v)) M1) : sk_call g d ck sk xX11_shows [.inr (.inr (some A)), .inl x1] M Q := by
  obtain ⟨ra, rb, nl, nw, R, H, R2, H2, T, f, f2, nc, nle, ni, rf, b1, b2, hands, h2, sc, dr, n, i, lc, wn, ho, next, kept, has, nm, lawF, wrF, pgs, lad, wad, qs, sg, ln, pl, ss, lg, size, lines, longest, letters, cnt, c, ci, nh, S, Y, hX, ht, hm, hR, h21⟩ := hJ
  obtain ⟨⟨B0, B4⟩, Bru, ⟨Bl0, Bl1⟩, ⟨Bc0, Bc1⟩, ⟨E23, E27, E22⟩, E0, ⟨W0, W6⟩⟩ := jd_bounds hX hR
  obtain ⟨⟨hx, hx2⟩, G2, ⟨hsh, ⟨L0, L4⟩, W06, L9⟩, G4, G5, G6, ⟨hws, hwa⟩, ⟨hP, hL⟩, hh, ⟨hI, hIL⟩, hNo, hr, ⟨hst, hsb, hsk, hscr, hout, hA⟩⟩ := id hX
  obtain ⟨r1, ⟨r2, r2'⟩, r3, ⟨r4, r4'⟩, ⟨r5, r5'⟩, ⟨r6, r61, r62, r63⟩, ⟨⟨r7, r7a, r7b⟩, r71, r72, r73, r74, r75⟩, r8, r9⟩ := id hR
  obtain ⟨⟨Y0, Y1', Y2⟩, -⟩ := id r1
  obtain ⟨q1, q2, ⟨q3, q4, q5⟩, q6, q7, q8, hk⟩ := id r3
  have rX := jd_rx hX hR
  have hwl := jd_wl hR
  have hH := jd_xH hR
  refine x_shows (by omega) hx hP hk a1 (hQ _ M (JM_q hX ht hm hR h5 h21 (fun d Q hd hq => ?_)))
  rw [shows_eq q1 E23 Bc1 Y2] at hq
  exact m_shows (by omega) hm rX a1 (hq M S Y hm (fun _ _ => rfl) (fun _ _ => rfl) h21)
theorem j_lamp (hd : 125 ≤ d) (hJ : J g A bs N scr k M) (h5 : k < 512) (a1 : i32 x1) (hQ : ∀ v M1, JM g A bs N scr (k + 1) xX12_lamp [.inl x1] v M1 → Q (some (.inl v)) M1) : sk_call g d ck sk xX11_lamp [.inr (.inr (some A)), .inl x1] M Q := by
  obtain ⟨ra, rb, nl, nw, R, H, R2, H2, T, f, f2, nc, nle, ni, rf, b1, b2, hands, h2, sc, dr, n, i, lc, wn, ho, next, kept, has, nm, lawF, wrF, pgs, lad, wad, qs, sg, ln, pl, ss, lg, size, lines, longest, letters, cnt, c, ci, nh, S, Y, hX, ht, hm, hR, h21⟩ := hJ
  obtain ⟨⟨B0, B4⟩, Bru, ⟨Bl0, Bl1⟩, ⟨Bc0, Bc1⟩, ⟨E23, E27, E22⟩, E0, ⟨W0, W6⟩⟩ := jd_bounds hX hR
  obtain ⟨⟨hx, hx2⟩, G2, ⟨hsh, ⟨L0, L4⟩, W06, L9⟩, G4, G5, G6, ⟨hws, hwa⟩, ⟨hP, hL⟩, hh, ⟨hI, hIL⟩, hNo, hr, ⟨hst, hsb, hsk, hscr, hout, hA⟩⟩ := id hX
  obtain ⟨r1, ⟨r2, r2'⟩, r3, ⟨r4, r4'⟩, ⟨r5, r5'⟩, ⟨r6, r61, r62, r63⟩, ⟨⟨r7, r7a, r7b⟩, r71, r72, r73, r74, r75⟩, r8, r9⟩ := id hR
  obtain ⟨⟨Y0, Y1', Y2⟩, -⟩ := id r1
  obtain ⟨q1, q2, ⟨q3, q4, q5⟩, q6, q7, q8, hk⟩ := id r3
  have rX := jd_rx hX hR
  have hwl := jd_wl hR
  have hH := jd_xH hR
  refine x_lamp (by omega) hx hP hk a1 (hQ _ M (JM_q hX ht hm hR h5 h21 (fun d Q hd hq => ?_)))
  rw [lamp_eq q1 E23 Bc1 Y2] at hq
  exact m_lamp (by omega) hm rX a1 (hq M S Y hm (fun _ _ => rfl) (fun _ _ => rfl) h21)
theorem j_agrees (hd : 125 ≤ d) (hJ : J g A bs N scr k M) (h5 : k < 512) (a1 : i32 x1) (a2 : i32 x2) (a3 : i32 x3) (hQ : ∀ v M1, JM g A bs N scr (k + 1) xX12_agrees [.inl x1, .inl x2, .inl x3] v M1 → Q (some (.inl v)) M1) : sk_call g d ck sk xX11_agrees [.inr (.inr (some A)), .inl x1, .inl x2, .inl x3] M Q := by
  obtain ⟨ra, rb, nl, nw, R, H, R2, H2, T, f, f2, nc, nle, ni, rf, b1, b2, hands, h2, sc, dr, n, i, lc, wn, ho, next, kept, has, nm, lawF, wrF, pgs, lad, wad, qs, sg, ln, pl, ss, lg, size, lines, longest, letters, cnt, c, ci, nh, S, Y, hX, ht, hm, hR, h21⟩ := hJ
  obtain ⟨⟨B0, B4⟩, Bru, ⟨Bl0, Bl1⟩, ⟨Bc0, Bc1⟩, ⟨E23, E27, E22⟩, E0, ⟨W0, W6⟩⟩ := jd_bounds hX hR
  obtain ⟨⟨hx, hx2⟩, G2, ⟨hsh, ⟨L0, L4⟩, W06, L9⟩, G4, G5, G6, ⟨hws, hwa⟩, ⟨hP, hL⟩, hh, ⟨hI, hIL⟩, hNo, hr, ⟨hst, hsb, hsk, hscr, hout, hA⟩⟩ := id hX
  obtain ⟨r1, ⟨r2, r2'⟩, r3, ⟨r4, r4'⟩, ⟨r5, r5'⟩, ⟨r6, r61, r62, r63⟩, ⟨⟨r7, r7a, r7b⟩, r71, r72, r73, r74, r75⟩, r8, r9⟩ := id hR
  obtain ⟨⟨Y0, Y1', Y2⟩, -⟩ := id r1
  obtain ⟨q1, q2, ⟨q3, q4, q5⟩, q6, q7, q8, hk⟩ := id r3
  have rX := jd_rx hX hR
  have hwl := jd_wl hR
  have hH := jd_xH hR
  refine x_agrees (by omega) hst hx hsh W0 W6 hws hP hk a1 a2 a3 (hQ _ M (JM_q hX ht hm hR h5 h21 (fun d Q hd hq => ?_)))
  have e : (if 0 ≤ x1 ∧ x1 < wn ∧ 0 ≤ x3 ∧ x3 ≤ 2 ∧ rd_does (R 0) (R 1) (lines x1) (longest x1) x2 = true then x_who (R 0) (R 2) (sg x1) (ln x1) (pl x1) (size x1) x2 c.1 c.2.1 x3 else -1) = (if mo_spot S Y x1 x2 = 1 ∧ 0 ≤ x3 ∧ x3 ≤ 2 then mo_who Y x1 x2 x3 else -1) := by
    have b := bw_spot (w := x1) (spot := x2) r1
    by_cases z : 0 ≤ x1 ∧ x1 < wn ∧ 0 ≤ x3 ∧ x3 ≤ 2 ∧ rd_does (R 0) (R 1) (lines x1) (longest x1) x2 = true
    · rw [if_pos z, if_pos ⟨b.2 ⟨z.1, z.2.1, z.2.2.2.2⟩, z.2.2.1, z.2.2.2.1⟩]
      exact (bw_who r1 q1 z.1 z.2.1 z.2.2.2.2).symm
    · rw [if_neg z, if_neg (fun q => z ⟨(b.1 q.1).1, (b.1 q.1).2.1, q.2.1, q.2.2, (b.1 q.1).2.2⟩)]
  rw [e] at hq
  exact m_agrees (by omega) hm rX a1 a2 a3 (hq M S Y hm (fun _ _ => rfl) (fun _ _ => rfl) h21)
theorem j_may (hd : 125 ≤ d) (hJ : J g A bs N scr k M) (h5 : k < 512) (a1 : i32 x1) (a2 : i32 x2) (hQ : ∀ v M1, JM g A bs N scr (k + 1) xX12_may [.inl x1, .inl x2] v M1 → Q (some (.inl v)) M1) : sk_call g d ck sk xX11_may [.inr (.inr (some A)), .inl x1, .inl x2] M Q := by
  obtain ⟨ra, rb, nl, nw, R, H, R2, H2, T, f, f2, nc, nle, ni, rf, b1, b2, hands, h2, sc, dr, n, i, lc, wn, ho, next, kept, has, nm, lawF, wrF, pgs, lad, wad, qs, sg, ln, pl, ss, lg, size, lines, longest, letters, cnt, c, ci, nh, S, Y, hX, ht, hm, hR, h21⟩ := hJ
  obtain ⟨⟨B0, B4⟩, Bru, ⟨Bl0, Bl1⟩, ⟨Bc0, Bc1⟩, ⟨E23, E27, E22⟩, E0, ⟨W0, W6⟩⟩ := jd_bounds hX hR
  obtain ⟨⟨hx, hx2⟩, G2, ⟨hsh, ⟨L0, L4⟩, W06, L9⟩, G4, G5, G6, ⟨hws, hwa⟩, ⟨hP, hL⟩, hh, ⟨hI, hIL⟩, hNo, hr, ⟨hst, hsb, hsk, hscr, hout, hA⟩⟩ := id hX
  obtain ⟨r1, ⟨r2, r2'⟩, r3, ⟨r4, r4'⟩, ⟨r5, r5'⟩, ⟨r6, r61, r62, r63⟩, ⟨⟨r7, r7a, r7b⟩, r71, r72, r73, r74, r75⟩, r8, r9⟩ := id hR
  obtain ⟨⟨Y0, Y1', Y2⟩, -⟩ := id r1
  obtain ⟨q1, q2, ⟨q3, q4, q5⟩, q6, q7, q8, hk⟩ := id r3
  have rX := jd_rx hX hR
  have hwl := jd_wl hR
  have hH := jd_xH hR
  refine x_may (by omega) hst hx hsh W0 W6 hws hP hk a1 a2 (hQ _ M (JM_q hX ht hm hR h5 h21 (fun d Q hd hq => ?_)))
  have e : (if 0 ≤ x1 ∧ x1 < wn ∧ 0 < hands ∧ -1 ≤ x2 then nfe x2 (nfi (x_may1 R c.1 c.2.1 (sg x1) (ln x1) (pl x1) (size x1) (lines x1) (longest x1)) (fun s => s) x2 (4 * (R 0 * R 1)).toNat 0 0) else -1) = (if 0 < S 23 ∧ 0 ≤ x1 ∧ x1 < S 27 ∧ -1 ≤ x2 then nfe x2 (nfi (mo_may S Y x1) (fun s => s) x2 (4 * S 23).toNat 0 0) else -1) := by
    refine ite_c2 (by omega) (fun z => ?_) (fun _ => rfl)
    have : x_may1 R c.1 c.2.1 (sg x1) (ln x1) (pl x1) (size x1) (lines x1) (longest x1) = mo_may S Y x1 := by
      funext s
      exact may_eq r1 q1 z.1 z.2.1
    rw [this, E23]
  rw [e] at hq
  exact m_may (by omega) hm rX a1 a2 (hq M S Y hm (fun _ _ => rfl) (fun _ _ => rfl) h21)
theorem j_best (hd : 125 ≤ d) (hJ : J g A bs N scr k M) (h5 : k < 512) (a1 : i32 x1) (hQ : ∀ v M1, JM g A bs N scr (k + 1) xX12_best [.inl x1] v M1 → Q (some (.inl v)) M1) : sk_call g d ck sk xX11_best [.inr (.inr (some A)), .inl x1] M Q := by
  obtain ⟨ra, rb, nl, nw, R, H, R2, H2, T, f, f2, nc, nle, ni, rf, b1, b2, hands, h2, sc, dr, n, i, lc, wn, ho, next, kept, has, nm, lawF, wrF, pgs, lad, wad, qs, sg, ln, pl, ss, lg, size, lines, longest, letters, cnt, c, ci, nh, S, Y, hX, ht, hm, hR, h21⟩ := hJ
  obtain ⟨⟨B0, B4⟩, Bru, ⟨Bl0, Bl1⟩, ⟨Bc0, Bc1⟩, ⟨E23, E27, E22⟩, E0, ⟨W0, W6⟩⟩ := jd_bounds hX hR
  obtain ⟨⟨hx, hx2⟩, G2, ⟨hsh, ⟨L0, L4⟩, W06, L9⟩, G4, G5, G6, ⟨hws, hwa⟩, ⟨hP, hL⟩, hh, ⟨hI, hIL⟩, hNo, hr, ⟨hst, hsb, hsk, hscr, hout, hA⟩⟩ := id hX
  obtain ⟨r1, ⟨r2, r2'⟩, r3, ⟨r4, r4'⟩, ⟨r5, r5'⟩, ⟨r6, r61, r62, r63⟩, ⟨⟨r7, r7a, r7b⟩, r71, r72, r73, r74, r75⟩, r8, r9⟩ := id hR
  obtain ⟨⟨Y0, Y1', Y2⟩, -⟩ := id r1
  obtain ⟨q1, q2, ⟨q3, q4, q5⟩, q6, q7, q8, hk⟩ := id r3
  have rX := jd_rx hX hR
  have hwl := jd_wl hR
  have hH := jd_xH hR
  refine x_best (by omega) hst hx hsh W0 W6 hws hP hk a1 (hQ _ M (JM_q hX ht hm hR h5 h21 (fun d Q hd hq => ?_)))
  have e : (if 0 ≤ x1 ∧ x1 < wn then (sk_fd (x_best1 R c.1 c.2.1 (sg x1) (ln x1) (pl x1) (size x1) (lines x1) (longest x1)) 0 (4 * (R 0 * R 1)).toNat (0, -1)).2 else -1) = (if 0 < S 23 ∧ 0 ≤ x1 ∧ x1 < S 27 then sk_fd (mo_best S Y x1) 0 (4 * S 23).toNat (-1) else -1) := by
    by_cases z : 0 ≤ x1 ∧ x1 < wn
    · rw [if_pos z]
      by_cases z2 : 0 < S 23
      · have z3 : 0 < S 23 ∧ 0 ≤ x1 ∧ x1 < S 27 := by omega
        rw [if_pos z3, E23]
        exact best_eq r1 q1 z.1 z.2 _ 0 (0, -1) (-1) rfl (by omega) (Or.inl ⟨rfl, rfl⟩)
      · have z3 : ¬ (0 < S 23 ∧ 0 ≤ x1 ∧ x1 < S 27) := by omega
        rw [if_neg z3, show (4 * (R 0 * R 1)).toNat = 0 by omega]
        rfl
    · have z3 : ¬ (0 < S 23 ∧ 0 ≤ x1 ∧ x1 < S 27) := by omega
      rw [if_neg z, if_neg z3]
  rw [e] at hq
  exact m_best (by omega) hm rX a1 (hq M S Y hm (fun _ _ => rfl) (fun _ _ => rfl) h21)
theorem j_over (hd : 125 ≤ d) (hJ : J g A bs N scr k M) (h5 : k < 512) (a1 : i32 x1) (a2 : i32 x2) (hQ : ∀ v M1, JM g A bs N scr (k + 1) xX12_over [.inl x1, .inl x2] v M1 → Q (some (.inl v)) M1) : sk_call g d ck sk xX11_over [.inr (.inr (some A)), .inl x1, .inl x2] M Q := by
  obtain ⟨ra, rb, nl, nw, R, H, R2, H2, T, f, f2, nc, nle, ni, rf, b1, b2, hands, h2, sc, dr, n, i, lc, wn, ho, next, kept, has, nm, lawF, wrF, pgs, lad, wad, qs, sg, ln, pl, ss, lg, size, lines, longest, letters, cnt, c, ci, nh, S, Y, hX, ht, hm, hR, h21⟩ := hJ
  obtain ⟨⟨B0, B4⟩, Bru, ⟨Bl0, Bl1⟩, ⟨Bc0, Bc1⟩, ⟨E23, E27, E22⟩, E0, ⟨W0, W6⟩⟩ := jd_bounds hX hR
  obtain ⟨⟨hx, hx2⟩, G2, ⟨hsh, ⟨L0, L4⟩, W06, L9⟩, G4, G5, G6, ⟨hws, hwa⟩, ⟨hP, hL⟩, hh, ⟨hI, hIL⟩, hNo, hr, ⟨hst, hsb, hsk, hscr, hout, hA⟩⟩ := id hX
  obtain ⟨r1, ⟨r2, r2'⟩, r3, ⟨r4, r4'⟩, ⟨r5, r5'⟩, ⟨r6, r61, r62, r63⟩, ⟨⟨r7, r7a, r7b⟩, r71, r72, r73, r74, r75⟩, r8, r9⟩ := id hR
  obtain ⟨⟨Y0, Y1', Y2⟩, -⟩ := id r1
  obtain ⟨q1, q2, ⟨q3, q4, q5⟩, q6, q7, q8, hk⟩ := id r3
  have rX := jd_rx hX hR
  have hwl := jd_wl hR
  have hH := jd_xH hR
  refine x_over (by omega) hx hP hk a1 a2 (hQ _ M (JM_q hX ht hm hR h5 h21 (fun d Q hd hq => ?_)))
  rw [over_eq q1 E23 Bru E22] at hq
  exact m_over (by omega) hm rX (by omega) (by omega) a1 a2 (hq M S Y hm (fun _ _ => rfl) (fun _ _ => rfl) h21)
theorem j_fits (hd : 125 ≤ d) (hJ : J g A bs N scr k M) (h5 : k < 512) (a1 : i32 x1) (hQ : ∀ v M1, JM g A bs N scr (k + 1) xX12_fits [.inl x1] v M1 → Q (some (.inl v)) M1) : sk_call g d ck sk xX11_fits [.inr (.inr (some A)), .inl x1] M Q := by
  obtain ⟨ra, rb, nl, nw, R, H, R2, H2, T, f, f2, nc, nle, ni, rf, b1, b2, hands, h2, sc, dr, n, i, lc, wn, ho, next, kept, has, nm, lawF, wrF, pgs, lad, wad, qs, sg, ln, pl, ss, lg, size, lines, longest, letters, cnt, c, ci, nh, S, Y, hX, ht, hm, hR, h21⟩ := hJ
  obtain ⟨⟨B0, B4⟩, Bru, ⟨Bl0, Bl1⟩, ⟨Bc0, Bc1⟩, ⟨E23, E27, E22⟩, E0, ⟨W0, W6⟩⟩ := jd_bounds hX hR
  obtain ⟨⟨hx, hx2⟩, G2, ⟨hsh, ⟨L0, L4⟩, W06, L9⟩, G4, G5, G6, ⟨hws, hwa⟩, ⟨hP, hL⟩, hh, ⟨hI, hIL⟩, hNo, hr, ⟨hst, hsb, hsk, hscr, hout, hA⟩⟩ := id hX
  obtain ⟨r1, ⟨r2, r2'⟩, r3, ⟨r4, r4'⟩, ⟨r5, r5'⟩, ⟨r6, r61, r62, r63⟩, ⟨⟨r7, r7a, r7b⟩, r71, r72, r73, r74, r75⟩, r8, r9⟩ := id hR
  obtain ⟨⟨Y0, Y1', Y2⟩, -⟩ := id r1
  obtain ⟨q1, q2, ⟨q3, q4, q5⟩, q6, q7, q8, hk⟩ := id r3
  have rX := jd_rx hX hR
  have hwl := jd_wl hR
  have hH := jd_xH hR
  refine x_fits (by omega) hst hx hsh W0 W6 hws hwl.1 hNo r2' a1 (hQ _ M (JM_q hX ht hm hR h5 h21 (fun d Q hd hq => ?_)))
  have e : (if 0 < hands ∧ -1 ≤ x1 then x_fts R nc nle ni nm wn sg ss lg lines longest x1 else -1) = (if S 23 ≠ 0 ∧ -1 ≤ x1 then mo_fts S Y x1 else -1) := by
    exact ite_c2 (by omega) (fun _ => fts_eq r1 r2) (fun _ => rfl)
  rw [e] at hq
  exact m_fits (by omega) hm rX (jd_rn hX hR) a1 (hq M S Y hm (fun _ _ => rfl) (fun _ _ => rfl) h21)
theorem j_meets (hd : 125 ≤ d) (hJ : J g A bs N scr k M) (h5 : k < 512) (a1 : i32 x1) (a2 : i32 x2) (hQ : ∀ v M1, JM g A bs N scr (k + 1) xX12_meets [.inl x1, .inl x2] v M1 → Q (some (.inl v)) M1) : sk_call g d ck sk xX11_meets [.inr (.inr (some A)), .inl x1, .inl x2] M Q := by
  obtain ⟨ra, rb, nl, nw, R, H, R2, H2, T, f, f2, nc, nle, ni, rf, b1, b2, hands, h2, sc, dr, n, i, lc, wn, ho, next, kept, has, nm, lawF, wrF, pgs, lad, wad, qs, sg, ln, pl, ss, lg, size, lines, longest, letters, cnt, c, ci, nh, S, Y, hX, ht, hm, hR, h21⟩ := hJ
  obtain ⟨⟨B0, B4⟩, Bru, ⟨Bl0, Bl1⟩, ⟨Bc0, Bc1⟩, ⟨E23, E27, E22⟩, E0, ⟨W0, W6⟩⟩ := jd_bounds hX hR
  obtain ⟨⟨hx, hx2⟩, G2, ⟨hsh, ⟨L0, L4⟩, W06, L9⟩, G4, G5, G6, ⟨hws, hwa⟩, ⟨hP, hL⟩, hh, ⟨hI, hIL⟩, hNo, hr, ⟨hst, hsb, hsk, hscr, hout, hA⟩⟩ := id hX
  obtain ⟨r1, ⟨r2, r2'⟩, r3, ⟨r4, r4'⟩, ⟨r5, r5'⟩, ⟨r6, r61, r62, r63⟩, ⟨⟨r7, r7a, r7b⟩, r71, r72, r73, r74, r75⟩, r8, r9⟩ := id hR
  obtain ⟨⟨Y0, Y1', Y2⟩, -⟩ := id r1
  obtain ⟨q1, q2, ⟨q3, q4, q5⟩, q6, q7, q8, hk⟩ := id r3
  have rX := jd_rx hX hR
  have hwl := jd_wl hR
  have hH := jd_xH hR
  refine x_meets (by omega) hx hsh W0 W6 hws hwl.2.1 a1 a2 (hQ _ M (JM_q hX ht hm hR h5 h21 (fun d Q hd hq => ?_)))
  have e : (if x1 < 0 ∨ wn ≤ x1 ∨ x2 < 0 ∨ wn ≤ x2 then -1 else wr_meet (sg x1) (sg x2) (lg x1 0) (sk_min (lg x1 0) (lg x2 0)).toNat) = (if x1 < 0 ∨ S 27 ≤ x1 ∨ x2 < 0 ∨ S 27 ≤ x2 then -1 else mo_meet Y x1 x2) := by
    exact ite_c2 (by omega) (fun _ => rfl) (fun z => meet_eq r1 (by omega) (by omega) (by omega) (by omega))
  rw [e] at hq
  exact m_meets (by omega) hm (by omega) (by omega) hwl.2.2.1 a1 a2 (hq M S Y hm (fun _ _ => rfl) (fun _ _ => rfl) h21)
theorem j_odds (hd : 125 ≤ d) (hJ : J g A bs N scr k M) (h5 : k < 512) (a1 : i32 x1) (a2 : i32 x2) (a3 : i32 x3) (a4 : i32 x4) (hQ : ∀ v M1, JM g A bs N scr (k + 1) xX12_odds [.inl x1, .inl x2, .inl x3, .inl x4] v M1 → Q (some (.inl v)) M1) : sk_call g d ck sk xX11_odds [.inr (.inr (some A)), .inl x1, .inl x2, .inl x3, .inl x4] M Q := by
  obtain ⟨ra, rb, nl, nw, R, H, R2, H2, T, f, f2, nc, nle, ni, rf, b1, b2, hands, h2, sc, dr, n, i, lc, wn, ho, next, kept, has, nm, lawF, wrF, pgs, lad, wad, qs, sg, ln, pl, ss, lg, size, lines, longest, letters, cnt, c, ci, nh, S, Y, hX, ht, hm, hR, h21⟩ := hJ
  obtain ⟨⟨B0, B4⟩, Bru, ⟨Bl0, Bl1⟩, ⟨Bc0, Bc1⟩, ⟨E23, E27, E22⟩, E0, ⟨W0, W6⟩⟩ := jd_bounds hX hR
  obtain ⟨⟨hx, hx2⟩, G2, ⟨hsh, ⟨L0, L4⟩, W06, L9⟩, G4, G5, G6, ⟨hws, hwa⟩, ⟨hP, hL⟩, hh, ⟨hI, hIL⟩, hNo, hr, ⟨hst, hsb, hsk, hscr, hout, hA⟩⟩ := id hX
  obtain ⟨r1, ⟨r2, r2'⟩, r3, ⟨r4, r4'⟩, ⟨r5, r5'⟩, ⟨r6, r61, r62, r63⟩, ⟨⟨r7, r7a, r7b⟩, r71, r72, r73, r74, r75⟩, r8, r9⟩ := id hR
  obtain ⟨⟨Y0, Y1', Y2⟩, -⟩ := id r1
  obtain ⟨q1, q2, ⟨q3, q4, q5⟩, q6, q7, q8, hk⟩ := id r3
  have rX := jd_rx hX hR
  have hwl := jd_wl hR
  have hH := jd_xH hR
  refine x_odds (by omega) hst hx hsh W0 W6 hws hP hk a1 a2 a3 a4 (hQ _ M (JM_q hX ht hm hR h5 h21 (fun d Q hd hq => ?_)))
  have e : (if 0 ≤ x1 ∧ x1 < wn ∧ 0 ≤ x3 ∧ x3 ≤ 100 ∧ 0 ≤ x4 ∧ x4 ≤ 16 ∧ rd_does (R 0) (R 1) (lines x1) (longest x1) x2 = true then x_rr x3 (x_who (R 0) (R 2) (sg x1) (ln x1) (pl x1) (size x1) x2 c.1 c.2.1 0).toNat x4 1000000000 else -1) = (if mo_spot S Y x1 x2 = 1 ∧ 0 ≤ x3 ∧ x3 ≤ 100 ∧ 0 ≤ x4 ∧ x4 ≤ 16 then m_of x3 x4 (mo_who Y x1 x2 0).toNat 0 1000000000 else -1) := by
    have b := bw_spot (w := x1) (spot := x2) r1
    by_cases z : 0 ≤ x1 ∧ x1 < wn ∧ 0 ≤ x3 ∧ x3 ≤ 100 ∧ 0 ≤ x4 ∧ x4 ≤ 16 ∧ rd_does (R 0) (R 1) (lines x1) (longest x1) x2 = true
    · obtain ⟨z1, z2, z3, z4, z5, z6, z7⟩ := z
      rw [if_pos ⟨z1, z2, z3, z4, z5, z6, z7⟩, if_pos ⟨b.2 ⟨z1, z2, z7⟩, z3, z4, z5, z6⟩, bw_who r1 q1 z1 z2 z7]
      have o := odds_eq (ch := x3) (v := x4) z3 z4 (x_who (R 0) (R 2) (sg x1) (ln x1) (pl x1) (size x1) x2 c.1 c.2.1 0).toNat 0 1000000000 (by omega)
      rw [Int.sub_zero] at o
      exact o
    · rw [if_neg z, if_neg (fun q => z ⟨(b.1 q.1).1, (b.1 q.1).2.1, q.2.1, q.2.2.1, q.2.2.2.1, q.2.2.2.2, (b.1 q.1).2.2⟩)]
  rw [e] at hq
  exact m_odds (by omega) hm rX a1 a2 a3 a4 (hq M S Y hm (fun _ _ => rfl) (fun _ _ => rfl) h21)
theorem j_shares (hd : 125 ≤ d) (hJ : J g A bs N scr k M) (h5 : k < 512) (a1 : i32 x1) (a2 : i32 x2) (hQ : ∀ v M1, JM g A bs N scr (k + 1) xX12_shares [.inl x1, .inl x2] v M1 → Q (some (.inl v)) M1) : sk_call g d ck sk xX11_shares [.inr (.inr (some A)), .inl x1, .inl x2] M Q := by
  obtain ⟨ra, rb, nl, nw, R, H, R2, H2, T, f, f2, nc, nle, ni, rf, b1, b2, hands, h2, sc, dr, n, i, lc, wn, ho, next, kept, has, nm, lawF, wrF, pgs, lad, wad, qs, sg, ln, pl, ss, lg, size, lines, longest, letters, cnt, c, ci, nh, S, Y, hX, ht, hm, hR, h21⟩ := hJ
  obtain ⟨⟨B0, B4⟩, Bru, ⟨Bl0, Bl1⟩, ⟨Bc0, Bc1⟩, ⟨E23, E27, E22⟩, E0, ⟨W0, W6⟩⟩ := jd_bounds hX hR
  obtain ⟨⟨hx, hx2⟩, G2, ⟨hsh, ⟨L0, L4⟩, W06, L9⟩, G4, G5, G6, ⟨hws, hwa⟩, ⟨hP, hL⟩, hh, ⟨hI, hIL⟩, hNo, hr, ⟨hst, hsb, hsk, hscr, hout, hA⟩⟩ := id hX
  obtain ⟨r1, ⟨r2, r2'⟩, r3, ⟨r4, r4'⟩, ⟨r5, r5'⟩, ⟨r6, r61, r62, r63⟩, ⟨⟨r7, r7a, r7b⟩, r71, r72, r73, r74, r75⟩, r8, r9⟩ := id hR
  obtain ⟨⟨Y0, Y1', Y2⟩, -⟩ := id r1
  obtain ⟨q1, q2, ⟨q3, q4, q5⟩, q6, q7, q8, hk⟩ := id r3
  have rX := jd_rx hX hR
  have hwl := jd_wl hR
  have hH := jd_xH hR
  refine x_shares (by omega) hx hP hk a1 a2 (hQ _ M (JM_q hX ht hm hR h5 h21 (fun d Q hd hq => ?_)))
  rw [shares_eq q1 E23 Bru E22 B0 B4] at hq
  exact m_shares (by omega) hm rX (by omega) (by omega) a1 a2 (hq M S Y hm (fun _ _ => rfl) (fun _ _ => rfl) h21)
theorem j_count (hd : 125 ≤ d) (hJ : J g A bs N scr k M) (h5 : k < 512) (a1 : i32 x1) (hQ : ∀ v M1, JM g A bs N scr (k + 1) xX12_count [.inl x1] v M1 → Q (some (.inl v)) M1) : sk_call g d ck sk xX11_count [.inr (.inr (some A)), .inl x1] M Q := by
  obtain ⟨ra, rb, nl, nw, R, H, R2, H2, T, f, f2, nc, nle, ni, rf, b1, b2, hands, h2, sc, dr, n, i, lc, wn, ho, next, kept, has, nm, lawF, wrF, pgs, lad, wad, qs, sg, ln, pl, ss, lg, size, lines, longest, letters, cnt, c, ci, nh, S, Y, hX, ht, hm, hR, h21⟩ := hJ
  obtain ⟨⟨B0, B4⟩, Bru, ⟨Bl0, Bl1⟩, ⟨Bc0, Bc1⟩, ⟨E23, E27, E22⟩, E0, ⟨W0, W6⟩⟩ := jd_bounds hX hR
  obtain ⟨⟨hx, hx2⟩, G2, ⟨hsh, ⟨L0, L4⟩, W06, L9⟩, G4, G5, G6, ⟨hws, hwa⟩, ⟨hP, hL⟩, hh, ⟨hI, hIL⟩, hNo, hr, ⟨hst, hsb, hsk, hscr, hout, hA⟩⟩ := id hX
  obtain ⟨r1, ⟨r2, r2'⟩, r3, ⟨r4, r4'⟩, ⟨r5, r5'⟩, ⟨r6, r61, r62, r63⟩, ⟨⟨r7, r7a, r7b⟩, r71, r72, r73, r74, r75⟩, r8, r9⟩ := id hR
  obtain ⟨⟨Y0, Y1', Y2⟩, -⟩ := id r1
  obtain ⟨q1, q2, ⟨q3, q4, q5⟩, q6, q7, q8, hk⟩ := id r3
  have rX := jd_rx hX hR
  have hwl := jd_wl hR
  have hH := jd_xH hR
  refine x_count (by omega) hx hsh hP G2.1 hNo hh.1 a1 (hQ _ M (JM_q hX ht hm hR h5 h21 (fun d Q hd hq => ?_)))
  rw [← E23, ← E22, ← r72, ← E27, ← r74, ← r71, ← q4, ← r7, ← r2.1, ← q5, ← r4'] at hq
  exact m_count (by omega) hm a1 (hq M S Y hm (fun _ _ => rfl) (fun _ _ => rfl) h21)
end JQ
