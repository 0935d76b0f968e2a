/-! ===== both sides at once: years; how long letters hold ===== -/
section JYEAR
variable {g : sk_G} {d ck sk : Nat} {M M1 : sk_M} {Q : sk_P} {A bs N : Nat} {scr : Int → Int} {k : Int} {x1 x2 x3 x4 : Int} {ra rb nl nw : Nat} {R H R2 H2 T f f2 nc nle ni rf : Int → Int} {b1 b2 : Bool} {hands h2 sc dr n i lc wn ho next kept has nm : Int} {lawF wrF pgs : Int → Option Nat} {lad wad : Int → Nat} {qs : Int → List lq_C} {sg ln pl ss lg : Int → Int → Int} {size lines longest letters : Int → Int} {cnt : Int → hC} {c ci : hC} {nh : Int} {S : Nat → Int} {Y : Nat → Int → Int}
def wG (A : Nat) (pgs : Int → Option Nat) (hold : Option (List lq_C)) (la q : Nat) : Prop := q = A ∨ (A + 22 ≤ q ∧ q ≤ A + 27) ∨ q = A + 29 ∨ q = A + 30 ∨ q = A + 31 ∨ (∃ j b, 0 ≤ j ∧ j < 40 ∧ pgs j = some b ∧ b ≤ q ∧ q ≤ b + 2) ∨ lhF hold la q
theorem jhold_n (h : jhold ho qs ≠ none) : 0 ≤ ho ∧ jhold ho qs = some (qs ho) := by
  unfold jhold at h ⊢
  by_cases e : ho < 0
  · rw [if_pos e] at h; exact (h rfl).elim
  · rw [if_neg e]; exact ⟨by omega, rfl⟩
theorem JX_w (hX : JX g M A bs N scr ra rb nl nw R H R2 H2 T f f2 nc nle ni rf b1 b2 hands h2 sc dr n i lc wn ho next kept has nm lawF wrF pgs lad wad qs sg ln pl ss lg size lines longest letters cnt c ci) (h1 : M.1 ≤ M1.1) (he : ∀ q, q < M.1 → ¬ wG A pgs (jhold ho qs) (lad ho) q → M1.2 q = M.2 q) (hl1 : lh M1 A (lad ho) (jhold ho qs)) : g2 M1 A T n i ∧ g3 M1 A nl nw lc wn ho lawF wrF ∧ (g4 M1 A nl ∧ g5 M1 A nw ∧ g6 M1 A nl lc lawF lad qs ∧ g7 M1 A nw wn wrF wad sg ln pl ss lg size lines longest letters) ∧ g10 M1 A ci f2 ∧ no_at M1 (A + 37) nc nle ni nm ∧ M1.2 (A + 49) = (20, 5, sk_I rf) ∧ g14 g M1 A bs N scr ∧ (∀ S Y, md M M (A + 53) S Y → md M1 M1 (A + 53) S Y) ∧ ∀ q, q < A + 85 → q ≠ A → ¬ (A + 12 ≤ q ∧ q ≤ A + 15) → ¬ (A + 22 ≤ q ∧ q ≤ A + 27) → q ≠ A + 29 → q ≠ A + 30 → q ≠ A + 31 → M1.2 q = M.2 q := by
  have jin := fun q => jb_in (q := q) hX
  have jpg := fun q => jb_pg (q := q) hX
  have hlh := jd_lh hX
  obtain ⟨h01, h02, h03, h04, h05, h06, h07, h08, h09, h10, h11, h12, h14⟩ := hX
  have hA := h14.2.2.2.2.2
  have ho9 := h03.2.2.2
  have fx : ∀ q, q < A + 85 → q ≠ A → ¬ (A + 12 ≤ q ∧ q ≤ A + 15) → ¬ (A + 22 ≤ q ∧ q ≤ A + 27) → q ≠ A + 29 → q ≠ A + 30 → q ≠ A + 31 → M1.2 q = M.2 q := fun q z0 z1 z2 z3 z4 z5 z6 => he q (by omega) (fun e => by
    rcases e with e | e | e | e | e | ⟨j, b, j0, j1, jb, e1, e2⟩ | ⟨e0, e1, e2⟩
    · exact z1 e
    · exact z3 e
    · exact z4 e
    · exact z5 e
    · exact z6 e
    · have := pgb h09 j0 j1 jb; omega
    · have := (hlh.2 e0).1
      unfold lhA at this
      omega)
  have jx : ∀ q, jb nl nw lc wn lad wad q → ¬ lhF (jhold ho qs) (lad ho) q → M1.2 q = M.2 q := fun q hq hn => he q (jin q hq).2 (fun e => by
    have ji := jin q hq
    rcases e with e | e | e | e | e | ⟨j, b, j0, j1, jb, e1, e2⟩ | e
    · omega
    · omega
    · omega
    · omega
    · omega
    · have := jpg q hq j0 j1 jb; omega
    · exact hn e)
  have kl : jhold ho qs ≠ none → (M.2 (lad ho)).1 = 1 ∧ ∀ k, 1 ≤ k → k ≤ 3 → (M.2 (lad ho + k)).1 = 20 := fun e => by
    have := jhold_n e
    exact lx_kinds (h06 ho this.1 (by omega)).2.1
  refine ⟨g2_e h02 (fun q q0 q1 => fx q (by omega) (by omega) (by omega) (by omega) (by omega) (by omega) (by omega)), g3_e h03 (fun q q0 q1 => fx q (by omega) (by omega) (by omega) (by omega) (by omega) (by omega) (by omega)), ⟨g4_e h04 h1 (fun q q0 q1 => jx q (Or.inl ⟨q0, q1⟩) (fun e => ?_)), g5_e h05 h1 (fun q q0 q1 => jx q (Or.inr (Or.inl ⟨q0, q1⟩)) (fun e => ?_)), fun l l0 l1 => ?_, g7_e h07 h1 (fun w q w0 w1 q0 q1 => jx q (Or.inr (Or.inr (Or.inr ⟨w, w0, w1, q0, q1⟩))) (fun e => ?_))⟩, g10_e h10 (fun q q0 q1 => fx q (by omega) (by omega) (by omega) (by omega) (by omega) (by omega) (by omega)), g11_e h11 (fun q q0 q1 => fx q (by omega) (by omega) (by omega) (by omega) (by omega) (by omega) (by omega)), (fx _ (by omega) (by omega) (by omega) (by omega) (by omega) (by omega) (by omega)).trans h12, g14_e h14 h1 (fun q hq => ?_), fun S Y hm => md_e hm (fun q q0 q1 => fx q (by omega) (by omega) (by omega) (by omega) (by omega) (by omega) (by omega)), fx⟩
  · obtain ⟨⟨_, _, _, _, _, hh⟩, -⟩ := h04
    have ka := lwo_kinds hh
    have kb := kl e.1
    have hn := jhold_n e.1
    have := blk_dis2 ka.1 kb.1 (fun q => (h06 ho hn.1 (by omega)).2.2.2.2.1 q.symm) (by omega) (by omega) ka.2 kb.2
    have := e.2
    omega
  · obtain ⟨⟨_, _, _, _, _, _, _, _, _, hh⟩, -⟩ := h05
    have ka := wr_kinds hh
    have kb := kl e.1
    have := blk_dis2 ka.1 kb.1 (fun q => by rw [q, kb.1] at ka; have := ka.1; omega) (by omega) (by omega) ka.2 kb.2
    have := e.2
    omega
  · obtain ⟨a1, a2, a3, a4, a5, a6⟩ := h06 l l0 l1
    refine ⟨a1, ?_, a3, by omega, a5, a6⟩
    by_cases el : l = ho
    · subst el
      have : jhold l qs = some (qs l) := by unfold jhold; rw [if_neg (by omega)]
      rw [this] at hl1
      obtain ⟨_, _, _, _, _, _, _, -, -, -, -, -, hlx⟩ := hl1
      exact hlx
    · refine lx_eq a2 (fun q q0 q1 => jx q (Or.inr (Or.inr (Or.inl ⟨l, l0, l1, q0, q1⟩))) (fun e => ?_))
      have ka := lx_kinds a2
      have kb := kl e.1
      have hn := jhold_n e.1
      have := blk_dis2 ka.1 kb.1 (fun q => a6 ho hn.1 (by omega) (fun y => el y.symm) q.symm) (by omega) (by omega) ka.2 kb.2
      have := e.2
      omega
  · have ka := wr_kinds (h07.1 w w0 w1).2.1
    have kb := kl e.1
    have := blk_dis2 ka.1 kb.1 (fun q => by rw [q, kb.1] at ka; have := ka.1; omega) (by omega) (by omega) ka.2 kb.2
    have := e.2
    omega
  · exact fx q (by omega) (by omega) (by omega) (by omega) (by omega) (by omega) (by omega)
theorem j_faded (hd : 125 ≤ d) (hJ : J g A bs N scr k M) (h5 : k < 512) (a1 : i32 x1) (a2 : i32 x2) (a3 : i32 x3) (hQ : ∀ v M1, JM g A bs N scr (k + 1) xX12_faded [.inl x1, .inl x2, .inl x3] v M1 → Q (some (.inl v)) M1) : sk_call g d ck sk xX11_faded [.inr (.inr (some A)), .inl x1, .inl x2, .inl x3] M Q := by
  obtain ⟨ra, rb, nl, nw, R, H, R2, H2, T, f, f2, nc, nle, ni, rf, b1, b2, hands, h2, sc, dr, n, i, lc, wn, ho, next, kept, has, nm, lawF, wrF, pgs, lad, wad, qs, sg, ln, pl, ss, lg, size, lines, longest, letters, cnt, c, ci, nh, S, Y, hX, ht, hm, hR, h21⟩ := hJ
  obtain ⟨⟨B0, B4⟩, Bru, ⟨Bl0, Bl1⟩, ⟨Bc0, Bc1⟩, ⟨E23, E27, E22⟩, E0, ⟨W0, W6⟩⟩ := jd_bounds hX hR
  obtain ⟨⟨hx, hx2⟩, G2, ⟨hsh, ⟨L0, L4⟩, W06, L9⟩, G4, G5, G6, ⟨hws, hwa⟩, ⟨hP, hL⟩, hh, ⟨hI, hIL⟩, hNo, hr, ⟨hst, hsb, hsk, hscr, hout, hA⟩⟩ := id hX
  obtain ⟨r1, ⟨r2, r2'⟩, r3, ⟨r4, r4'⟩, ⟨r5, r5'⟩, ⟨r6, r61, r62, r63⟩, ⟨⟨r7, r7a, r7b⟩, r71, r72, r73, r74, r75⟩, r8, r9⟩ := id hR
  obtain ⟨⟨Y0, Y1', Y2⟩, -⟩ := id r1
  obtain ⟨q1, q2, ⟨q3, q4, q5⟩, q6, q7, q8, hk⟩ := id r3
  have rX := jd_rx hX hR
  have hwl := jd_wl hR
  have hH := jd_xH hR
  obtain ⟨⟨ly2, hs2, co2, ye2, lo2, ll2, hT⟩, ⟨_, _, _, _, _, tb⟩, ⟨_, _, _, _, tc, tc2⟩, ⟨_, td⟩, ⟨_, te⟩, _, tf⟩ := id ht
  obtain ⟨hlh, hla⟩ := jd_lh hX
  obtain ⟨yX, wX⟩ := jd_yx hX hR
  have b := bw_spot (w := x1) (spot := x2) r1
  have hlA : lhA A (lad ho) ∨ jhold ho qs = none := by
    by_cases e : jhold ho qs = none
    · exact Or.inr e
    · exact Or.inl (hla e).1
  have hcy : (0 ≤ x1 ∧ x1 < wn ∧ 1 ≤ x3 ∧ x3 ≤ 16 ∧ rd_does (R 0) (R 1) (lines x1) (longest x1) x2 = true) ↔ (mo_spot S Y x1 x2 = 1 ∧ 1 ≤ x3 ∧ x3 ≤ 16) := ⟨fun z => ⟨b.2 ⟨z.1, z.2.1, z.2.2.2.2⟩, z.2.2.1, z.2.2.2.1⟩, fun z => ⟨(b.1 z.1).1, (b.1 z.1).2.1, z.2.1, z.2.2, (b.1 z.1).2.2⟩⟩
  -- where no law holds, any place will do
  obtain ⟨la, hlh, hla1, hla2⟩ : ∃ la, lh M A la (jhold ho qs) ∧ lhA A la ∧ (jhold ho qs ≠ none → la = lad ho) := by
    by_cases e : jhold ho qs = none
    · refine ⟨A + 12, ?_, Or.inl rfl, fun z => (z e).elim⟩
      rw [e] at hlh ⊢
      exact hlh
    · exact ⟨lad ho, hlh, (hla e).1, fun _ => rfl⟩
  refine x_faded (hold := jhold ho qs) (la := la) (Nat.le_trans (by decide) hd) hst hx hH.2.1 hH.2.2.1 hsh W0 W6 hws hH.1 hlh hla1 (fun e w w0 w1 => wl_dis hlh e (hws w w0 w1).2.1) (fun q e q0 q1 => ?_) hP hk hT (by rw [← q4]; exact q6.2.2.1) (by rw [← q4]; exact q6.2.2.2.1) a1 a2 a3 (fun z => hQ _ M (JM_q hX ht hm hR h5 h21 (fun d Q hd hq => ?_))) (fun z M' ly3 hs3 ly4 hs4 co4 ye4 lo4 ll4 fr hlh' hT' hpe => ?_)
  · have kk := lh_kinds hlh e
    by_cases e2 : q = la
    · rw [e2, kk.1]; omega
    · have := kk.2 (q - la) (by omega) (by omega)
      rw [show la + (q - la) = q by omega] at this
      omega
  · exact m_faded (Nat.le_trans (by decide) hd) hm yX wX a1 a2 a3 (fun _ => hq M S Y hm (fun _ _ => rfl) (fun _ _ => rfl) h21) (fun y => (z (hcy.2 y)).elim)
  · have hlh2 : lh M' A (lad ho) (jhold ho qs) := by
      by_cases e : jhold ho qs = none
      · rw [e] at hlh' ⊢
        exact hlh'
      · rw [← hla2 e]; exact hlh'
    have frG : ∀ q, ((A + 25 ≤ q ∧ q ≤ A + 27) ∨ lhF (jhold ho qs) la q) → wG A pgs (jhold ho qs) (lad ho) q := fun q e => by
      rcases e with e | e
      · exact Or.inr (Or.inl (by omega))
      · have := hla2 e.1
        subst this
        exact Or.inr (Or.inr (Or.inr (Or.inr (Or.inr (Or.inr e)))))
    obtain ⟨p2, p3, ⟨p4, p5, p6, p7⟩, p10, p11, p12, p14, pm, fx⟩ := JX_w (M1 := M') hX (by rw [fr.1]; exact Nat.le_refl _) (fun q _ hn => fr.2 q (fun e => hn (frG q e))) hlh2
    have f8 : ∀ q, q < A + 85 → ¬ (A + 12 ≤ q ∧ q ≤ A + 15) → ¬ (A + 25 ≤ q ∧ q ≤ A + 27) → M'.2 q = M.2 q := fun q z0 z1 z2 => fr.2 q (fun e => by
      rcases e with e | e
      · omega
      · have := hla1
        have e2 := e.2
        unfold lhA at this
        omega)
    have hX1 : JX g M' A bs N scr ra rb nl nw R H R2 H2 T f f2 nc nle ni rf b1 b2 hands h2 sc dr n i lc wn ho next kept has nm lawF wrF pgs lad wad qs sg ln pl ss lg size lines longest letters cnt c ci := ⟨g1_e ⟨hx, hx2⟩ (f8 _ (by omega) (by omega) (by omega)) (fun q q0 q1 => f8 q (by omega) (by omega) (by omega)), p2, p3, p4, p5, p6, p7, g8_e ⟨hP, hL⟩ (fun q hq => f8 q (by omega) (by omega) (by omega)), hg_mv hh (by rw [fr.1]; exact Nat.le_refl _) (f8 _ (by omega) (by omega) (by omega)) (f8 _ (by omega) (by omega) (by omega)) (fun j b q j0 j1 jb q0 q1 => fr.2 q (fun e => by
        have pb := pgb hh j0 j1 jb
        rcases e with e | e
        · omega
        · have := la_dis hlh e.1 hh j0 j1 jb
          have := e.2
          omega)), p10, p11, p12, p14⟩
    have ht1 : tm M' A := ⟨⟨_, _, _, _, _, _, hT'⟩, ⟨_, _, _, _, _, (f8 _ (by omega) (by omega) (by omega)).trans tb.1, (f8 _ (by omega) (by omega) (by omega)).trans tb.2.1, (f8 _ (by omega) (by omega) (by omega)).trans tb.2.2.1, (f8 _ (by omega) (by omega) (by omega)).trans tb.2.2.2.1, (f8 _ (by omega) (by omega) (by omega)).trans tb.2.2.2.2⟩, ⟨_, _, _, _, ⟨(f8 _ (by omega) (by omega) (by omega)).trans tc.1, (f8 _ (by omega) (by omega) (by omega)).trans tc.2.1, (f8 _ (by omega) (by omega) (by omega)).trans tc.2.2⟩, tc2⟩, ⟨_, (f8 _ (by omega) (by omega) (by omega)).trans td⟩, ⟨_, (f8 _ (by omega) (by omega) (by omega)).trans te⟩, _, (f8 _ (by omega) (by omega) (by omega)).trans tf⟩
    refine hQ _ M' (JM_q hX1 ht1 (pm S Y hm) hR h5 h21 (fun d Q hd hq => ?_))
    refine m_faded (Nat.le_trans (by decide) hd) (pm S Y hm) yX wX a1 a2 a3 (fun y => (y (hcy.1 z)).elim) (fun _ M2 fk lt st hm2 => ?_)
    have fe := faded_eq (hold := jhold ho qs) (v := x3) r1 z.1 z.2.1 z.2.2.2.2 hH.1 (fun j j0 j1 => (r8.2.2.1 j j0 j1).1) q1 q4 hpe
    rw [← fe]
    exact hq M2 _ _ hm2 (fun _ _ => rfl) (fun j hj => by
      unfold ty at hj
      unfold yw
      rw [if_neg (by omega), if_neg (by omega)]
      by_cases e : j = 18
      · subst e; rfl
      · rw [if_neg e, va_up_ne _ _ (by omega)]) h21
end JYEAR
