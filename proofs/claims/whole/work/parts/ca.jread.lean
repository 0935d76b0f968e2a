/-! ===== both sides at once: texts read ===== -/
section JREAD
variable {g : sk_G} {d ck sk : Nat} {M M1 : sk_M} {Q : sk_P} {A bs N : Nat} {scr : Int → Int} {k : Int} {x1 x2 x3 x4 : Int} {ra rb nl nw : Nat} {R H R2 H2 T f f2 nc nle ni rf : Int → Int} {b1 b2 : Bool} {hands h2 sc dr n i lc wn ho next kept has nm : Int} {lawF wrF pgs : Int → Option Nat} {lad wad : Int → Nat} {qs : Int → List lq_C} {sg ln pl ss lg : Int → Int → Int} {size lines longest letters : Int → Int} {cnt : Int → hC} {c ci : hC} {nh : Int} {S : Nat → Int} {Y : Nat → Int → Int}
/-- items within their bounds -/
def siB (kd : Bool) (fr : Int) (v : Int → Int) : Prop := ∀ w, 0 ≤ w → w < si_n kd → si_lo kd w ≤ v (fr + w) ∧ v (fr + w) ≤ si_hi kd w
theorem si_bd {T : Int → Int} {n : Int} (kd : Bool) (fr : Int) : ∀ (k : Nat) (i sn : Int) (v : Int → Int), siB kd fr v → siB kd fr (si T n kd fr k i sn v).2.2 ∧ ∀ j, j < fr ∨ fr + si_n kd ≤ j → (si T n kd fr k i sn v).2.2 j = v j
  | 0, i, sn, v, h => ⟨h, fun _ _ => rfl⟩
  | k + 1, i, sn, v, h => by
    have hw := si_w_in kd (tp_ch T n (tp_skip T n i))
    simp only [si]
    split
    · exact ⟨h, fun _ _ => rfl⟩
    · next e1 =>
      split
      · exact ⟨h, fun _ _ => rfl⟩
      · split
        · exact ⟨h, fun _ _ => rfl⟩
        · next e2 e3 =>
          have ih := si_bd (T := T) (n := n) kd fr k (tp_number T n 2 (tp_skip T n i + 1)).2 (sk_or sn (sk_shl 1 (si_w kd (tp_ch T n (tp_skip T n i))))) (sk_up v (fr + si_w kd (tp_ch T n (tp_skip T n i))) (tp_number T n 2 (tp_skip T n i + 1)).1) (fun w w0 w1 => by
            by_cases e : w = si_w kd (tp_ch T n (tp_skip T n i))
            · rw [← e, sk_up_self]
              rw [← e] at e3
              omega
            · rw [sk_up_ne _ _ (by omega)]
              exact h w w0 w1)
          exact ⟨ih.1, fun j hj => (ih.2 j hj).trans (sk_up_ne _ _ (by omega))⟩
def srB (s : sr_S) : Prop := siB true 0 s.2.2.1 ∧ (0 ≤ s.1 ∧ s.1 ≤ 4) ∧ ∀ h, 0 ≤ h → h < s.1 → siB false (2 * h) s.2.2.2
theorem sr_c_bd {T : Int → Int} {n : Int} (i : Int) {s : sr_S} (h : srB s) : srB (sr_c T n i s).2.2 := by
  obtain ⟨h1, h2, h3⟩ := h
  unfold sr_c
  split
  · exact ⟨(si_bd true 0 5 _ 0 s.2.2.1 h1).1, h2, h3⟩
  · split
    · next e1 e2 =>
      have hv : siB false (2 * s.1) (sk_up (sk_up s.2.2.2 (2 * s.1) 6) (2 * s.1 + 1) 1) := fun w w0 w1 => by
        simp only [si_n] at w1
        have : w = 0 ∨ w = 1 := by omega
        rcases this with rfl | rfl
        · rw [sk_up_ne _ _ (by omega), Int.add_zero, sk_up_self]; simp [si_lo, si_hi]
        · rw [sk_up_self]; simp [si_lo, si_hi]
      have q := si_bd (T := T) (n := n) false (2 * s.1) 3 (tp_skip T n i + 1) 0 _ hv
      refine ⟨h1, ⟨by simp only []; omega, by simp only []; omega⟩, fun hh q0 q1 => ?_⟩
      simp only [] at q1 ⊢
      by_cases e : hh = s.1
      · rw [e]; exact q.1
      · intro w w0 w1
        have w2 : w < 2 := by simpa [si_n] using w1
        rw [q.2 _ (Or.inl (by omega)), sk_up_ne _ _ (by omega), sk_up_ne _ _ (by omega)]
        exact h3 hh q0 (by omega) w w0 w1
    · exact ⟨h1, h2, h3⟩
theorem sr_bd {T : Int → Int} {n : Int} : ∀ (k : Nat) (i : Int) {s : sr_S}, srB s → srB (sr T n k i s).2.2
  | 0, i, s, h => h
  | k + 1, i, s, h => by
    have q := sr_c_bd (T := T) (n := n) i h
    simp only [sr]
    split
    · split
      · exact q
      · split
        · exact sr_bd k _ q
        · exact q
    · exact q
theorem rs0_bd (R H : Int → Int) : srB (rs0 R H) := by
  refine ⟨fun w w0 w1 => ?_, ⟨by simp [rs0], by simp [rs0]⟩, fun h h0 h1 => by simp only [rs0] at h1; omega⟩
  simp only [si_n] at w1
  have : w = 0 ∨ w = 1 ∨ w = 2 ∨ w = 3 := by omega
  show si_lo true w ≤ sk_up (sk_up (sk_up (sk_up R 0 6) 1 4) 2 3) 3 20 (0 + w) ∧ sk_up (sk_up (sk_up (sk_up R 0 6) 1 4) 2 3) 3 20 (0 + w) ≤ si_hi true w
  rcases this with rfl | rfl | rfl | rfl <;> simp [sk_up, si_lo, si_hi]
theorem srB_R {s : sr_S} (h : srB s) : (2 ≤ s.2.2.1 0 ∧ s.2.2.1 0 ≤ 8) ∧ (1 ≤ s.2.2.1 1 ∧ s.2.2.1 1 ≤ 5) ∧ (1 ≤ s.2.2.1 2 ∧ s.2.2.1 2 ≤ 9) ∧ 0 ≤ s.2.2.1 3 ∧ s.2.2.1 3 ≤ 99 := by
  have a := h.1 0 (by omega) (by decide)
  have b := h.1 1 (by omega) (by decide)
  have c := h.1 2 (by omega) (by decide)
  have e := h.1 3 (by omega) (by decide)
  simp only [Int.zero_add] at a b c e
  simp only [si_lo, si_hi] at a b c e
  exact ⟨by simpa using a, by simpa using b, by simpa using c, by simpa using e⟩
theorem srB_H {s : sr_S} (h : srB s) : (∀ j, 0 ≤ j → j < 2 * s.1 → 0 ≤ s.2.2.2 j ∧ s.2.2.2 j ≤ 9) ∧ ∀ j, 0 ≤ j → j < s.1 → 1 ≤ s.2.2.2 (2 * j) := by
  have key : ∀ j, 0 ≤ j → j < s.1 → (1 ≤ s.2.2.2 (2 * j) ∧ s.2.2.2 (2 * j) ≤ 9) ∧ 0 ≤ s.2.2.2 (2 * j + 1) ∧ s.2.2.2 (2 * j + 1) ≤ 9 := fun j j0 j1 => by
    have a := h.2.2 j j0 j1 0 (by omega) (by decide)
    have b := h.2.2 j j0 j1 1 (by omega) (by decide)
    rw [Int.add_zero] at a
    simp only [si_lo, si_hi] at a b
    exact ⟨by simpa using a, by simpa using b⟩
  refine ⟨fun j j0 j1 => ?_, fun j j0 j1 => (key j j0 j1).1.1⟩
  obtain ⟨m, hm⟩ : ∃ m, m = j / 2 := ⟨_, rfl⟩
  have q := key m (by omega) (by omega)
  have : j = 2 * m ∨ j = 2 * m + 1 := by omega
  rcases this with rfl | rfl
  · omega
  · omega
/-- the class behind a look for faults -/
theorem JX_f {R' H' : Int → Int} {h' j len top : Int} {b' : Bool} {st lf kk sg' ln' pl' ss' lg' : Int → Int} {size' lines' longest' letters' : Int} (hX : JX g M A bs N scr ra rb nl nw R H R2 H2 T f f2 nc nle ni rf b1 b2 hands h2 sc dr n i lc wn ho next kept has nm lawF wrF pgs lad wad qs sg ln pl ss lg size lines longest letters cnt c ci) (fr : sk_fr1 M M1 (fF A rb nl nw)) (hT : tp_at M1 (A + 1) (A + 2) T n j) (hr : ru_at M1 rb R' H' h' (sk_b b')) (hl : lwo M1 nl (nl + 1) (nl + 2) (nl + 3) len top st lf kk) (hw : wr_at M1 nw sg' ln' pl' ss' lg' size' lines' longest' letters') : JX g M1 A bs N scr ra rb nl nw R H (R') (H') T f f2 nc nle ni rf b1 (b') hands (h') sc dr n (j) lc wn ho next kept has nm lawF wrF pgs lad wad qs sg ln pl ss lg size lines longest letters cnt c ci ∧ (tm M A → tm M1 A) ∧ ∀ S Y, md M M (A + 53) S Y → md M1 M1 (A + 53) S Y := by
  have jin := fun q => jb_in (q := q) hX
  have jpg := fun q => jb_pg (q := q) hX
  obtain ⟨⟨h01, h01'⟩, h02, h03, h04, h05, h06, h07, h08, h09, h10, h11, h12, h14⟩ := hX
  have hA := h14.2.2.2.2.2
  have hrr := h01.2.2.1
  have l4 := h04.2
  have l5 := h05.2
  have l41 := l4.1
  unfold lhA at l41
  have fx : ∀ q, q < A + 85 → q ≠ A + 1 → ¬ (rb ≤ q ∧ q ≤ rb + 2) → ¬ (A + 12 ≤ q ∧ q ≤ A + 21) → M1.2 q = M.2 q := fun q z0 z1 z2 z3 => fr.2 q (fun e => by
    rcases e with e | e | e | e
    · exact z1 e
    · exact z2 e
    · omega
    · omega)
  have h1 : M.1 ≤ M1.1 := by rw [fr.1]; exact Nat.le_refl _
  have fb : ∀ q, ((A + 12 ≤ q ∧ q ≤ A + 21) ∨ A + 85 ≤ q) → ¬ (nl ≤ q ∧ q ≤ nl + 1) → ¬ (nw ≤ q ∧ q ≤ nw + 5) → M1.2 q = M.2 q := fun q z0 z1 z2 => fr.2 q (fun e => by
    rcases e with e | e | e | e
    · omega
    · omega
    · exact z1 e
    · exact z2 e)
  have kl : (M.2 nl).1 = 1 ∧ ∀ k, 1 ≤ k → k ≤ 3 → (M.2 (nl + k)).1 = 20 := by
    obtain ⟨⟨_, _, _, _, _, hh⟩, -⟩ := h04
    exact lwo_kinds hh
  have kw : (M.2 nw).1 = 10 ∧ ∀ k, 1 ≤ k → k ≤ 5 → (M.2 (nw + k)).1 = 20 := by
    obtain ⟨⟨_, _, _, _, _, _, _, _, _, hh⟩, -⟩ := h05
    exact wr_kinds hh
  refine ⟨⟨⟨⟨(fx _ (by omega) (by omega) (by omega) (by omega)).trans h01.1, ⟨(fx _ (by omega) (by omega) (by omega) (by omega)).trans h01.2.1.1, (fx _ (by omega) (by omega) (by omega) (by omega)).trans h01.2.1.2.1, (fx _ (by omega) (by omega) (by omega) (by omega)).trans h01.2.1.2.2⟩, h01.2.2⟩, hr⟩, ⟨hT, h02.2⟩, g3_e h03 (fun q q0 q1 => fx q (by omega) (by omega) (by omega) (by omega)), ⟨⟨_, _, _, _, _, hl⟩, l4.1, by omega⟩, ⟨⟨_, _, _, _, _, _, _, _, _, hw⟩, l5.1, by omega⟩, g6_e h06 h1 (fun l q l0 l1 q0 q1 => ?_), g7_e h07 h1 (fun w q w0 w1 q0 q1 => ?_), g8_e h08 (fun q hq => fx q (by omega) (by omega) (by omega) (by omega)), hg_mv h09 h1 (fx _ (by omega) (by omega) (by omega) (by omega)) (fx _ (by omega) (by omega) (by omega) (by omega)) (fun j b q j0 j1 jb q0 q1 => ?_), g10_e h10 (fun q q0 q1 => fx q (by omega) (by omega) (by omega) (by omega)), g11_e h11 (fun q q0 q1 => fx q (by omega) (by omega) (by omega) (by omega)), (fx _ (by omega) (by omega) (by omega) (by omega)).trans h12, g14_e h14 h1 (fun q hq => ?_)⟩, fun ht => tm_e ht (fun q hq => fx q (by omega) (by omega) (by omega) (by omega)), fun S Y hm => md_e hm (fun q q0 q1 => fx q (by omega) (by omega) (by omega) (by omega))⟩
  · have jj := jin q (Or.inr (Or.inr (Or.inl ⟨l, l0, l1, q0, q1⟩)))
    have ka := lx_kinds (h06 l l0 l1).2.1
    have d1 := blk_dis2 ka.1 kl.1 (h06 l l0 l1).2.2.2.2.1 (by omega) (by omega) ka.2 kl.2
    have d2 := blk_dis2 ka.1 kw.1 (fun e => by rw [e, kw.1] at ka; have := ka.1; omega) (by omega) (by omega) ka.2 kw.2
    exact fb q jj.1 (by omega) (by omega)
  · have jj := jin q (Or.inr (Or.inr (Or.inr ⟨w, w0, w1, q0, q1⟩)))
    have ka := wr_kinds (h07.1 w w0 w1).2.1
    have d1 := blk_dis2 ka.1 kl.1 (fun e => by rw [e, kl.1] at ka; have := ka.1; omega) (by omega) (by omega) ka.2 kl.2
    have d2 := blk_dis2 ka.1 kw.1 (h07.2 w w0 w1).2 (by omega) (by omega) ka.2 kw.2
    exact fb q jj.1 (by omega) (by omega)
  · have pb := pgb h09 j0 j1 jb
    refine fb q (by omega) (fun e => ?_) (fun e => ?_)
    · have := jpg q (Or.inl (by omega)) j0 j1 jb; omega
    · have := jpg q (Or.inr (Or.inl (by omega))) j0 j1 jb; omega
  · exact fx q (by omega) (by omega) (by omega) (by omega)
/-- the reference behind it -/
theorem JR_rq {x w : Int} {R' H' : Int → Int} {h' j : Int} {b' : Bool} {S' : Nat → Int} {Y' : Nat → Int → Int} (hR : JR k ra rb nl nw R H R2 H2 T f f2 nc nle ni rf b1 b2 hands h2 sc dr n i lc wn ho next kept has nm lawF wrF pgs lad wad qs sg ln pl ss lg size lines longest letters cnt c ci nh S Y) (hq : rq x w S Y S' Y') (hx : lc ≤ x) (hw : wn ≤ w) : JR k ra rb nl nw R H (R') (H') T f f2 nc nle ni rf b1 (b') hands (h') sc dr n (j) lc wn ho next kept has nm lawF wrF pgs lad wad qs sg ln pl ss lg size lines longest letters cnt c ci nh (S') (Y') := by
  obtain ⟨r1, ⟨r2, r2'⟩, r3, ⟨r4, r4'⟩, ⟨r5, r5'⟩, ⟨r6, r61, r62, r63⟩, ⟨r7, r71, r72, r73, r74, r75⟩, r8, r9⟩ := hR
  have hS := fun j (h : j ≠ 3 ∧ j ≠ 4 ∧ j ≠ 5 ∧ j ≠ 14 ∧ j ≠ 19) => hq.1 j h.1 h.2.1 h.2.2.1 h.2.2.2.1 h.2.2.2.2
  have hY := fun k (h : k ≠ 2 ∧ k ≠ 3 ∧ k ≠ 4 ∧ k ≠ 5 ∧ k ≠ 6 ∧ k ≠ 7 ∧ k ≠ 8 ∧ k ≠ 11 ∧ k ≠ 12 ∧ k ≠ 15 ∧ k ≠ 16 ∧ k ≠ 17) => hq.2.1 k h.1 h.2.1 h.2.2.1 h.2.2.2.1 h.2.2.2.2.1 h.2.2.2.2.2.1 h.2.2.2.2.2.2.1 h.2.2.2.2.2.2.2.1 h.2.2.2.2.2.2.2.2.1 h.2.2.2.2.2.2.2.2.2.1 h.2.2.2.2.2.2.2.2.2.2.1 h.2.2.2.2.2.2.2.2.2.2.2
  have y13 := hY 13 (by decide)
  refine ⟨?_, ⟨bn_e r2 (hS _ (by decide)) (hY _ (by decide)) (hY _ (by decide)) (hY _ (by decide)), r2'⟩, by rw [hY 18 (by decide)]; exact r3, ⟨by rw [hY 20 (by decide)]; exact r4, (hS _ (by decide)).trans r4'⟩, ⟨(hS _ (by decide)).trans r5, by rw [hY 30 (by decide)]; exact r5'⟩, ⟨by rw [hY 19 (by decide)]; exact r6, r61, r62, r63⟩, ⟨⟨(hS _ (by decide)).trans r7.1, r7.2⟩, (hS _ (by decide)).trans r71, (hS _ (by decide)).trans r72, (hS _ (by decide)).trans r73, (hS _ (by decide)).trans r74, by rw [hY 1 (by decide)]; exact r75⟩, j8_e r8 (hY _ (by decide)), fun l l0 l1 => ?_⟩
  · obtain ⟨a1, a2, a3, a4, a5, a6⟩ := r1
    refine ⟨by rw [y13]; exact a1, a2, (hS _ (by decide)).trans a3, (hS _ (by decide)).trans a4, a5, fun w' w0 w1 => ⟨?_, (a6 w' w0 w1).2⟩⟩
    exact wrel_keep (w := w) hq.2.2.2.2.2.1 hq.2.2.2.2.2.2.1 hq.2.2.2.2.2.2.2 (by omega) (a6 w' w0 w1).2.2.2.2.2.2.2 (a6 w' w0 w1).1
  · obtain ⟨b1, b2', b3, b4⟩ := r9 l l0 l1
    exact ⟨mla_keep (rq_lsm hq (by omega)) (by omega) (by omega) (by omega) (by omega) b1, b2', b3, b4⟩
theorem rq_21 {x w : Int} {S' : Nat → Int} {Y' : Nat → Int → Int} (hq : rq x w S Y S' Y') (h : j21 Y) : j21 Y' := by
  have := hq.2.1 21 (by decide) (by decide) (by decide) (by decide) (by decide) (by decide) (by decide) (by decide) (by decide) (by decide) (by decide) (by decide)
  unfold j21
  rw [this]
  exact h
end JREAD
