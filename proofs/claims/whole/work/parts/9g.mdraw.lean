/-! ===== the reference: draws ===== -/
abbrev m_W : Type := Int × (Int → Int)
/-- no two signs lie alike -/
def mo_di (Y : Nat → Int → Int) (w : Int) : Prop := ∀ k1 k2, 0 ≤ k1 → k1 < k2 → k2 < Y 16 w → ¬ (Y 15 (3 * (16 * w + k1) + 1) = Y 15 (3 * (16 * w + k2) + 1) ∧ Y 15 (3 * (16 * w + k1) + 2) = Y 15 (3 * (16 * w + k2) + 2))
theorem mo_cell_inj {W Hh a b a' b' l way : Int} (hW : 2 ≤ W) (h1 : 0 ≤ mo_cell W Hh a b l way) (h2 : mo_cell W Hh a b l way = mo_cell W Hh a' b' l way) (y0 : 0 ≤ way) (y3 : way ≤ 3) : a = a' ∧ b = b' := by
  unfold mo_cell at h1 h2
  split at h1
  · next e1 =>
    rw [if_pos e1] at h2
    split at h2
    · next e2 =>
      obtain ⟨c1, c2, c3, c4⟩ := e1
      obtain ⟨d1, d2, d3, d4⟩ := e2
      have key : ∀ x y x' y' : Int, 0 ≤ x → x < W → 0 ≤ x' → x' < W → W * y + x = W * y' + x' → x = x' ∧ y = y' := by
        intro x y x' y' a1 a2 a3 a4 h
        have e : W * (y - y') = x' - x := by rw [Int.mul_sub]; omega
        have : y - y' = 0 := by
          by_cases hp : 0 < y - y'
          · have : W * 1 ≤ W * (y - y') := Int.mul_le_mul_of_nonneg_left (by omega) (by omega)
            omega
          · by_cases hq : y - y' < 0
            · have : W * (y - y') ≤ W * (-1) := Int.mul_le_mul_of_nonneg_left (by omega) (by omega)
              omega
            · omega
        rw [this] at e
        omega
      have k := key _ _ _ _ c1 c2 d1 d2 h2
      unfold mo_x mo_y at k
      have hw : way = 0 ∨ way = 1 ∨ way = 2 ∨ way = 3 := by omega
      rcases hw with rfl | rfl | rfl | rfl <;> simp at k <;> omega
    · omega
  · omega
theorem m_wr_h {Y : Nat → Int → Int} {w h l way ink c : Int} : ∀ (n : Nat) (k : Int) (nw : Int → Int), 0 ≤ c → c < 40 → (∀ j, k ≤ j → j < k + n → 0 ≤ mo_at Y w j l way) → (∀ j, k ≤ j → j < k + n → mo_at Y w j l way < 40 ∧ mo_at Y w j l way ≠ c) → (∀ j, 0 ≤ j → j < 40 → 0 ≤ nw j) → sk_fd (m_wr Y w h l way ink) k n nw c = nw c
  | 0, _, _, _, _, _, _, _ => rfl
  | n + 1, k, nw, c0, c1, h0, h1, hz => by
    simp only [sk_fd]
    have a := h1 k (by omega) (by omega)
    have b := h0 k (by omega) (by omega)
    have z := hz _ b a.1
    by_cases e : Y 15 (3 * (16 * w + k)) = 26
    · have e9 : m_wr Y w h l way ink k nw = nw := if_pos e
      rw [e9]
      exact m_wr_h n (k + 1) nw c0 c1 (fun j x y => h0 j (by omega) (by omega)) (fun j x y => h1 j (by omega) (by omega)) hz
    · have e9 : m_wr Y w h l way ink k nw = m_w3 (mo_at Y w k l way) (Y 15 (3 * (16 * w + k))) h ink nw := if_neg e
      rw [e9, m_wr_h n (k + 1) _ c0 c1 (fun j x y => h0 j (by omega) (by omega)) (fun j x y => h1 j (by omega) (by omega))]
      · unfold m_w3
        rw [sk_up_ne _ _ (Ne.symm a.2), sk_up_ne _ _ (by omega), sk_up_ne _ _ (by omega), sk_up_ne _ _ (by omega)]
      · intro j j0 j1
        unfold m_w3
        by_cases ej : j = mo_at Y w k l way
        · rw [ej, sk_up_self]; omega
        · rw [sk_up_ne _ _ ej, sk_up_ne _ _ (by omega), sk_up_ne _ _ (by omega), sk_up_ne _ _ (by omega)]; exact hz j j0 j1
theorem mo_full_0 {Y : Nat → Int → Int} {w l way : Int} (h : mo_full Y w l way = 0) : ∀ k, 0 ≤ k → k < Y 16 w → Y 15 (3 * (16 * w + k)) ≠ 26 → Y 18 (mo_at Y w k l way) ≠ 6 := by
  have key : ∀ (n : Nat) (i : Int), sk_ff (fun k => decide (Y 15 (3 * (16 * w + k)) ≠ 26 ∧ Y 18 (mo_at Y w k l way) = 6)) (fun _ => (1 : Int)) 0 i n = 0 → ∀ k, i ≤ k → k < i + n → Y 15 (3 * (16 * w + k)) ≠ 26 → Y 18 (mo_at Y w k l way) ≠ 6 := by
    intro n
    induction n with
    | zero => intro i _ k k0 k1; omega
    | succ n ih =>
      intro i h k k0 k1 e e6
      simp only [sk_ff] at h
      split at h
      · omega
      · next hh =>
        by_cases ek : k = i
        · subst ek
          exact hh (decide_eq_true ⟨e, e6⟩)
        · exact ih (i + 1) h k (by omega) (by omega) e e6
  intro k k0 k1
  exact key _ 0 h k k0 (by omega)
theorem mo_full_in (Y : Nat → Int → Int) (w l way : Int) : mo_full Y w l way = 0 ∨ mo_full Y w l way = 1 := by
  have := sk_ff_in (p := fun k => decide (Y 15 (3 * (16 * w + k)) ≠ 26 ∧ Y 18 (mo_at Y w k l way) = 6)) (v := fun _ => (1 : Int)) (e := 0) (lo := 0) (hi := 1) (by omega) (Y 16 w).toNat 0 (fun _ _ _ => by omega)
  unfold mo_full
  omega
theorem mo_does_1 {Y : Nat → Int → Int} {w l way : Int} (h : mo_does Y w l way = 1) : ∀ k, 0 ≤ k → k < Y 16 w → mo_at Y w k l way ≠ -1 := by
  have key : ∀ (n : Nat) (i : Int), sk_ff (fun k => decide (mo_at Y w k l way = -1)) (fun _ => (0 : Int)) 1 i n = 1 → ∀ k, i ≤ k → k < i + n → mo_at Y w k l way ≠ -1 := by
    intro n
    induction n with
    | zero => intro i _ k k0 k1; omega
    | succ n ih =>
      intro i h k k0 k1 e
      simp only [sk_ff] at h
      split at h
      · omega
      · next hh =>
        by_cases ek : k = i
        · subst ek
          exact hh (decide_eq_true e)
        · exact ih (i + 1) h k (by omega) (by omega) e
  intro k k0 k1
  exact key _ 0 h k k0 (by omega)
theorem m_hroom {Y : Nat → Int → Int} {w h l way ink : Int} {nw : Int → Int} (hs : mo_sk Y) (hdi : mo_di Y w) (hn : mn_ok nw) (y0 : 0 ≤ way) (y3 : way ≤ 3) (hat : ∀ k, 0 ≤ k → k < Y 16 w → 0 ≤ mo_at Y w k l way) (hf : ∀ k, 0 ≤ k → k < Y 16 w → Y 15 (3 * (16 * w + k)) ≠ 26 → nw (mo_at Y w k l way) ≠ 6) : ∀ k nw', 0 ≤ k → k < Y 16 w → Y 15 (3 * (16 * w + k)) ≠ 26 → nw' = sk_fd (m_wr Y w h l way ink) 0 k.toNat nw → nw' (mo_at Y w k l way) < 6 := by
  intro k nw' k0 k1 e en
  have c9 : ∀ k, mo_at Y w k l way < 40 := fun k => (mo_cell_in (W := Y 13 0) (Hh := Y 13 1) (line := Y 15 (3 * (16 * w + k) + 1)) (i := Y 15 (3 * (16 * w + k) + 2)) (l := l) (way := way) hs.1 hs.2.1 hs.2.2.1 hs.2.2.2).2.1
  rw [en, m_wr_h k.toNat 0 nw (hat k k0 k1) (c9 k) (fun j a b => hat j a (by omega)) (fun j a b => ⟨c9 j, fun ej => hdi j k a (by omega) k1 (mo_cell_inj hs.1 (hat j a (by omega)) ej y0 y3)⟩) (fun j a b => (hn.1 j a b).1)]
  have a := hf k k0 k1 e
  have b := hn.1 _ (hat k k0 k1) (c9 k)
  omega
theorem ng_wr {nh : Int} {Y : Nat → Int → Int} {w h l way ink : Int} (hs : mo_sk Y) (hw : mo_ok Y w) (h0 : 0 ≤ h) (h4 : h < nh) (i0 : 0 ≤ ink) (i9 : ink ≤ 9) : ∀ (n : Nat) (k : Int) (nw : Int → Int), 0 ≤ k → k + n ≤ Y 16 w → ng nh nw → (∀ j, k ≤ j → j < k + n → 0 ≤ mo_at Y w j l way) → ng nh (sk_fd (m_wr Y w h l way ink) k n nw)
  | 0, _, _, _, _, hg, _ => hg
  | n + 1, k, nw, k0, k1, hg, hat => by
    simp only [sk_fd]
    refine ng_wr hs hw h0 h4 i0 i9 n (k + 1) _ (by omega) (by omega) ?_ (fun j a b => hat j (by omega) (by omega))
    have b := hw.2.2 k k0 (by omega)
    have c := hat k (by omega) (by omega)
    have c9 : mo_at Y w k l way < 40 := (mo_cell_in (W := Y 13 0) (Hh := Y 13 1) (line := Y 15 (3 * (16 * w + k) + 1)) (i := Y 15 (3 * (16 * w + k) + 2)) (l := l) (way := way) hs.1 hs.2.1 hs.2.2.1 hs.2.2.2).2.1
    unfold m_wr
    split
    · exact hg
    · next e =>
      unfold m_w3
      refine ng_up (ng_up (ng_up (ng_up hg ?_) ?_) ?_) ?_
      all_goals
        intro i i0 i1
        refine ⟨fun _ => ?_, fun _ => ?_, fun _ => ?_⟩ <;> omega
def m_wd (S : Nat → Int) (Y : Nat → Int → Int) (s : m_W) : m_W :=
  if dw (nx s.1) 10 < S 31 ∧ 0 < S 27 then
    (if mo_does Y (dw (nx (nx s.1)) (S 27)) (dw (nx (nx (nx (nx s.1)))) (S 23)) (dw (nx (nx (nx (nx (nx s.1))))) 4) = 1 ∧ mo_full (va_up Y 18 s.2) (dw (nx (nx s.1)) (S 27)) (dw (nx (nx (nx (nx s.1)))) (S 23)) (dw (nx (nx (nx (nx (nx s.1))))) 4) = 0
     then (nx (nx (nx (nx (nx s.1)))), sk_fd (m_wr Y (dw (nx (nx s.1)) (S 27)) (dw (nx (nx (nx s.1))) (S 22)) (dw (nx (nx (nx (nx s.1)))) (S 23)) (dw (nx (nx (nx (nx (nx s.1))))) 4) (Y 14 (2 * dw (nx (nx (nx s.1))) (S 22)))) 0 (Y 16 (dw (nx (nx s.1)) (S 27))).toNat s.2)
     else (nx (nx (nx (nx (nx s.1)))), s.2))
  else (nx s.1, s.2)
def m_sd (Y : Nat → Int → Int) (s : m_W) : m_W := if 3 ≤ dw (nx s.1) 10 then (nx s.1, s.2) else (nx (nx s.1), (sk_fd (fun i => m_sc 2 (Y 13 0 * dw (nx (nx s.1)) (Y 13 1) + i)) 0 (Y 13 0).toNat (s.2, 0)).1)
section MDRAW
variable {nh : Int} {g : sk_G} {d ck sk : Nat} {M0 M : sk_M} {Q : sk_P} {B : Nat} {S : Nat → Int} {Y : Nat → Int → Int} {nw : Int → Int} {x : Int}
theorem ng_scr {nh : Int} {W row n : Int} (n0 : 0 ≤ n) (n1 : n < 100) (hr0 : 0 ≤ W * row) (hr1 : W * row + W ≤ 40) : ∀ (k : Nat) (i : Int) (s : (Int → Int) × Int), 0 ≤ i → i + k ≤ W → ng nh s.1 → mn_ok s.1 → ng nh (sk_fd (fun i => m_sc n (W * row + i)) i k s).1
  | 0, _, _, _, _, h, _ => h
  | k + 1, i, s, i0, i1, h, hm => by
    simp only [sk_fd]
    have kk := hm.1 (W * row + i) (by omega) (by omega)
    refine ng_scr n0 n1 hr0 hr1 k (i + 1) _ (by omega) (by omega) (ng_sc n0 (by omega) (by omega) h hm) ?_
    have st : ∀ (m : Nat) (left : Int) (nw : Int → Int), 0 ≤ left → m ≤ 6 → mn_ok nw → mn_ok (m_st (W * row + i) m left nw) := by
      intro m
      induction m with
      | zero => intro _ _ _ _ h; exact h
      | succ m ih =>
        intro left nw hl m6 h
        simp only [m_st]
        have b := h.2 (40 + 3 * (6 * (W * row + i) + m) + 2) (by omega) (by omega)
        have mn := sk_min_in left (nw (40 + 3 * (6 * (W * row + i) + m) + 2))
        exact ih _ _ (by omega) (by omega) (mn_up h (fun _ _ => by omega) (fun _ _ => by omega))
    have cl : ∀ (m : Nat) (j : Int) (s : Int × (Int → Int)), 0 ≤ s.1 → s.1 ≤ j → j + m ≤ 6 → mn_ok s.2 → mn_ok (sk_fd (m_cl (W * row + i)) j m s).2 := by
      intro m
      induction m with
      | zero => intro _ _ _ _ _ h; exact h
      | succ m ih =>
        intro j s s0 s1 hj h
        simp only [sk_fd]
        by_cases e : 0 < s.2 (40 + 3 * (6 * (W * row + i) + j) + 2)
        · have e9 : m_cl (W * row + i) j s = (s.1 + 1, mc3 (6 * (W * row + i) + j) (6 * (W * row + i) + s.1) s.2) := if_pos e
          rw [e9]
          exact ih (j + 1) _ (by simp only []; omega) (by simp only []; omega) (by omega) (mc3_ok h (by omega) (by omega) (by omega) (by omega))
        · have e9 : m_cl (W * row + i) j s = s := if_neg e
          rw [e9]
          exact ih (j + 1) s s0 (by omega) (by omega) h
    have e1 := st (s.1 (W * row + i)).toNat n s.1 n0 (by omega) hm
    have e2 := m_st_l (W * row + i) (by omega) (s.1 (W * row + i)).toNat n s.1 (W * row + i) (by omega)
    have e3 := cl (m_st (W * row + i) (s.1 (W * row + i)).toNat n s.1 (W * row + i)).toNat 0 (0, m_st (W * row + i) (s.1 (W * row + i)).toNat n s.1) (by simp) (by simp) (by rw [e2]; omega) e1
    have e4 := m_cl_n (l := W * row + i) (m_st (W * row + i) (s.1 (W * row + i)).toNat n s.1 (W * row + i)).toNat 0 (0, m_st (W * row + i) (s.1 (W * row + i)).toNat n s.1) (by simp) (by simp)
    refine mn_up e3 (fun _ _ => ⟨e4.1, ?_⟩) (fun _ _ => by omega)
    have := e4.2
    rw [e2] at this
    show (sk_fd (m_cl (W * row + i)) 0 (m_st (W * row + i) (s.1 (W * row + i)).toNat n s.1 (W * row + i)).toNat (0, m_st (W * row + i) (s.1 (W * row + i)).toNat n s.1)).1 ≤ 6
    rw [e2]
    omega
theorem m_dy85 (hd : 10 ≤ d) (h : md M0 M B (va_up S 34 x) (va_up Y 18 nw)) (hn : mn_ok nw) (hg : ng nh nw) (hs : mo_sk Y) (hQ : ∀ M', md M0 M' B (va_up S 34 (m_sd Y (x, nw)).1) (va_up Y 18 (m_sd Y (x, nw)).2) → mn_ok (m_sd Y (x, nw)).2 → ng nh (m_sd Y (x, nw)).2 → Q none M') : sk_B (g, d, ck, sk, xX12_drawYear, Q) 85 [some (.inr (.inr (some B))), none, none, none, none] [] M := by
  have p1 := h.1
  have y13 := md_n13 h
  have d1 := dw_in (nx x) (j := 10) (by omega) (by omega)
  have d2 := dw_in (nx (nx x)) (j := Y 13 1) (by have := hs.2.2.1; omega) (by have := hs.2.2.2; omega)
  unfold m_sd at hQ
  by_cases e : 3 ≤ dw (nx x) 10
  · rw [if_pos e] at hQ
    have h1 := md_put (S' := va_up S 34 (nx x)) h
    have r := hQ _ h1 hn hg
    refine tX12_drawYear_85 _ _ _ ?_
    simp (disch := omega) only [kX12_drawYear_85, po_i, po_l, po_null, po_iload, po_lload, po_aload, po_istore, po_astore, po_iinc, po_iadd, po_isub, po_imul, po_ineg, po_iand, po_ior, po_ishl, po_ishr, po_iushr, po_idiv, po_irem, po_dup, po_dup2, po_pop, po_ifeq, po_ifne, po_iflt, po_ifge, po_ifgt, po_ifle, po_iceq, po_icne, po_iclt, po_icge, po_icgt, po_icle, po_ifnull, po_ifnull1, po_ret, po_iret, po_zret, po_lret, po_aret, po_getf, po_puti, po_putz, po_putl, po_puta, po_iaload, po_iastore, po_alen, po_baload, po_bastore, po_laload, po_lastore, po_aaload, po_aastore, po_invB, po_stcB, po_stcB0, po_iniB, po_new, po_newa, po_obj, po_ladd, po_lsub, po_lmul, po_ldiv, po_lrem, po_land, po_lor, po_lshl, po_lushr, po_i2l, po_l2i, po_i2c, po_lcmp, po_lstore, po_tsw, po_gets, po_max, po_min, po_maxl, po_minl, po_acopy, po_ixor, po_lds, po_slen, po_sidx, po_invT, po_stcT, po_stcT0, sk_swt, kX5_letterIn_0, kX5_handIn_0, kX5_strengthIn_0, kX5_weakened_0, kX5_codeAt_0, kX5_put_0, kX7_isSkin_0, kX7_wide_0, kX7_rows_0, kX7_legible_0, kX7_coinsAtFirst_0, kX7_cells_0, kX7_spots_0, kX7_hasCell_0, kX7_hasRow_0, kX7_hasHand_0, kX7_ofHand_0, kX7_firstOf_0, kX7_rowOf_0, kX7_placeOf_0, kX10_isLetter_0, kX10_signAt_0, kX8_writingAt_0, kX8_lawThatHolds_0, kX8_lets_0, kX9_rewind_0, kX9_step_0, kX9_stepBack_0, kX9_cut_0, kX3_clear_0, kX3_add_0, kX6_judge_0, kX6_swap_0, kX1_push_0, kX1_pop_0, kX0_forget_0, kX11_refuse_0, kX11_draw_0, kX12_in_0, kX12_has_0, kX12_here_0, kX12_bad_0, kX12_isDigit_0, kX12_isSign_0, kX12_isInk_0, kX12_of_0, kX12_setOf_0, kX12_isCell_0, kX12_isHand_0, kX12_isRow_0, kX12_isWriting_0, kX12_isLegible_0, kX12_signOf_0, kX12_areYears_0, kX12_isRefused_0, kX12_draw_0, sk_nth, sk_set, sk_lok, sk_isL, sk_one, sk_pop, sk_wt, sk_cat, sk_ent, sk_pad, sk_tl_n, sk_tl_s, List.length_cons, List.length_nil, true_and, and_true, Bool.not_false, sk_F_at, Option.getD_some, sk_w_id, sk_I_at, sk_isI, false_implies, true_implies, forall_const, ne_eq, not_true_eq_false, not_false_eq_true, implies_true, true_or, or_true, va_up_self, va_up_ne, va_up_up, sk_I_up, p1, md_F0, md_F1, md_F2, md_F3, md_F4, md_F5, md_F6, md_F7, md_F8, md_F9, md_F10, md_F11, md_F12, md_F13, md_F14, md_F15, md_F16, md_F17, md_F18, md_F19, md_F20, md_F21, md_F22, md_F23, md_F24, md_F25, md_F26, md_F27, md_F28, md_F29, md_F30, md_F31, md_F32, md_F33, md_F34, md_F35, md_F36, md_F37, md_F38, md_F39, md_F40, md_F41, md_F42, md_F43, md_F44, md_F45, md_F46, md_F47, md_F48, md_u0, md_u2, md_u3, md_u4, md_u5, md_u13, md_u14, md_u19, md_u22, md_u23, md_u27, md_u30, md_u31, md_u33, md_u35, md_u36, md_u45, md_u48, md_upl, md_upl, sk_wl_id, nx_def, dw_def]
    and_intros <;> intros <;> and_intros <;> intros <;> and_intros <;> intros <;> and_intros <;> intros <;> and_intros <;> intros <;> and_intros <;> intros <;> and_intros <;> intros <;> and_intros <;> intros <;> and_intros <;> intros <;> and_intros <;> intros <;> and_intros <;> intros <;> and_intros <;> intros <;> and_intros <;> try first | omega | rfl | assumption
  · rw [if_neg e] at hQ
    have h1 := md_put (S' := va_up S 34 (nx (nx x))) h
    obtain ⟨f0, f1, -, -, -, -⟩ := ru_first (W := Y 13 0) (Hh := Y 13 1) (Or.inr hs) d2.1 d2.2
    rw [Int.mul_comm] at f0 f1
    have s9 := hs.2.2.2
    refine tX12_drawYear_85 _ _ _ ?_
    simp (disch := omega) only [kX12_drawYear_85, po_i, po_l, po_null, po_iload, po_lload, po_aload, po_istore, po_astore, po_iinc, po_iadd, po_isub, po_imul, po_ineg, po_iand, po_ior, po_ishl, po_ishr, po_iushr, po_idiv, po_irem, po_dup, po_dup2, po_pop, po_ifeq, po_ifne, po_iflt, po_ifge, po_ifgt, po_ifle, po_iceq, po_icne, po_iclt, po_icge, po_icgt, po_icle, po_ifnull, po_ifnull1, po_ret, po_iret, po_zret, po_lret, po_aret, po_getf, po_puti, po_putz, po_putl, po_puta, po_iaload, po_iastore, po_alen, po_baload, po_bastore, po_laload, po_lastore, po_aaload, po_aastore, po_invB, po_stcB, po_stcB0, po_iniB, po_new, po_newa, po_obj, po_ladd, po_lsub, po_lmul, po_ldiv, po_lrem, po_land, po_lor, po_lshl, po_lushr, po_i2l, po_l2i, po_i2c, po_lcmp, po_lstore, po_tsw, po_gets, po_max, po_min, po_maxl, po_minl, po_acopy, po_ixor, po_lds, po_slen, po_sidx, po_invT, po_stcT, po_stcT0, sk_swt, kX5_letterIn_0, kX5_handIn_0, kX5_strengthIn_0, kX5_weakened_0, kX5_codeAt_0, kX5_put_0, kX7_isSkin_0, kX7_wide_0, kX7_rows_0, kX7_legible_0, kX7_coinsAtFirst_0, kX7_cells_0, kX7_spots_0, kX7_hasCell_0, kX7_hasRow_0, kX7_hasHand_0, kX7_ofHand_0, kX7_firstOf_0, kX7_rowOf_0, kX7_placeOf_0, kX10_isLetter_0, kX10_signAt_0, kX8_writingAt_0, kX8_lawThatHolds_0, kX8_lets_0, kX9_rewind_0, kX9_step_0, kX9_stepBack_0, kX9_cut_0, kX3_clear_0, kX3_add_0, kX6_judge_0, kX6_swap_0, kX1_push_0, kX1_pop_0, kX0_forget_0, kX11_refuse_0, kX11_draw_0, kX12_in_0, kX12_has_0, kX12_here_0, kX12_bad_0, kX12_isDigit_0, kX12_isSign_0, kX12_isInk_0, kX12_of_0, kX12_setOf_0, kX12_isCell_0, kX12_isHand_0, kX12_isRow_0, kX12_isWriting_0, kX12_isLegible_0, kX12_signOf_0, kX12_areYears_0, kX12_isRefused_0, kX12_draw_0, sk_nth, sk_set, sk_lok, sk_isL, sk_one, sk_pop, sk_wt, sk_cat, sk_ent, sk_pad, sk_tl_n, sk_tl_s, List.length_cons, List.length_nil, true_and, and_true, Bool.not_false, sk_F_at, Option.getD_some, sk_w_id, sk_I_at, sk_isI, false_implies, true_implies, forall_const, ne_eq, not_true_eq_false, not_false_eq_true, implies_true, true_or, or_true, va_up_self, va_up_ne, va_up_up, sk_I_up, p1, y13, md_F0, md_F1, md_F2, md_F3, md_F4, md_F5, md_F6, md_F7, md_F8, md_F9, md_F10, md_F11, md_F12, md_F13, md_F14, md_F15, md_F16, md_F17, md_F18, md_F19, md_F20, md_F21, md_F22, md_F23, md_F24, md_F25, md_F26, md_F27, md_F28, md_F29, md_F30, md_F31, md_F32, md_F33, md_F34, md_F35, md_F36, md_F37, md_F38, md_F39, md_F40, md_F41, md_F42, md_F43, md_F44, md_F45, md_F46, md_F47, md_F48, md_u0, md_u2, md_u3, md_u4, md_u5, md_u13, md_u14, md_u19, md_u22, md_u23, md_u27, md_u30, md_u31, md_u33, md_u35, md_u36, md_u45, md_u48, md_upl, md_upl, sk_wl_id, nx_def, dw_def]
    and_intros <;> intros <;> and_intros <;> intros <;> and_intros <;> intros <;> and_intros <;> intros <;> and_intros <;> intros <;> and_intros <;> intros <;> and_intros <;> intros <;> and_intros <;> intros <;> and_intros <;> intros <;> and_intros <;> intros <;> and_intros <;> intros <;> and_intros <;> intros <;> and_intros <;> try first | omega | rfl | assumption
    refine m_scrapeNow (by omega) h1 hn hs d2.1 d2.2 (by omega) (by omega) (fun M2 h2 hn2 => ?_)
    have r := hQ M2 h2 hn2 (ng_scr (by omega) (by omega) f0 f1 _ 0 (nw, 0) (by omega) (by have := hs.1; omega) hg hn)
    simp (disch := omega) only [po_i, po_l, po_null, po_iload, po_lload, po_aload, po_istore, po_astore, po_iinc, po_iadd, po_isub, po_imul, po_ineg, po_iand, po_ior, po_ishl, po_ishr, po_iushr, po_idiv, po_irem, po_dup, po_dup2, po_pop, po_ifeq, po_ifne, po_iflt, po_ifge, po_ifgt, po_ifle, po_iceq, po_icne, po_iclt, po_icge, po_icgt, po_icle, po_ifnull, po_ifnull1, po_ret, po_iret, po_zret, po_lret, po_aret, po_getf, po_puti, po_putz, po_putl, po_puta, po_iaload, po_iastore, po_alen, po_baload, po_bastore, po_laload, po_lastore, po_aaload, po_aastore, po_invB, po_stcB, po_stcB0, po_iniB, po_new, po_newa, po_obj, po_ladd, po_lsub, po_lmul, po_ldiv, po_lrem, po_land, po_lor, po_lshl, po_lushr, po_i2l, po_l2i, po_i2c, po_lcmp, po_lstore, po_tsw, po_gets, po_max, po_min, po_maxl, po_minl, po_acopy, po_ixor, po_lds, po_slen, po_sidx, po_invT, po_stcT, po_stcT0, sk_swt, kX5_letterIn_0, kX5_handIn_0, kX5_strengthIn_0, kX5_weakened_0, kX5_codeAt_0, kX5_put_0, kX7_isSkin_0, kX7_wide_0, kX7_rows_0, kX7_legible_0, kX7_coinsAtFirst_0, kX7_cells_0, kX7_spots_0, kX7_hasCell_0, kX7_hasRow_0, kX7_hasHand_0, kX7_ofHand_0, kX7_firstOf_0, kX7_rowOf_0, kX7_placeOf_0, kX10_isLetter_0, kX10_signAt_0, kX8_writingAt_0, kX8_lawThatHolds_0, kX8_lets_0, kX9_rewind_0, kX9_step_0, kX9_stepBack_0, kX9_cut_0, kX3_clear_0, kX3_add_0, kX6_judge_0, kX6_swap_0, kX1_push_0, kX1_pop_0, kX0_forget_0, kX11_refuse_0, kX11_draw_0, kX12_in_0, kX12_has_0, kX12_here_0, kX12_bad_0, kX12_isDigit_0, kX12_isSign_0, kX12_isInk_0, kX12_of_0, kX12_setOf_0, kX12_isCell_0, kX12_isHand_0, kX12_isRow_0, kX12_isWriting_0, kX12_isLegible_0, kX12_signOf_0, kX12_areYears_0, kX12_isRefused_0, kX12_draw_0, sk_nth, sk_set, sk_lok, sk_isL, sk_one, sk_pop, sk_wt, sk_cat, sk_ent, sk_pad, sk_tl_n, sk_tl_s, List.length_cons, List.length_nil, true_and, and_true, Bool.not_false, sk_F_at, Option.getD_some, sk_w_id, sk_I_at, sk_isI, false_implies, true_implies, forall_const, ne_eq, not_true_eq_false, not_false_eq_true, implies_true, true_or, or_true, va_up_self, va_up_ne, va_up_up, sk_I_up]
    exact r
def m_dy (S : Nat → Int) (Y : Nat → Int → Int) (s : m_W) : m_W := m_sd Y (m_wd S Y s)
set_option maxRecDepth 20000 in
theorem m_drawYear (hd : 12 ≤ d) (h : md M0 M B (va_up S 34 x) (va_up Y 18 nw)) (hn : mn_ok nw) (hg : ng nh nw) (hs : mo_sk Y) (hH : hb8 nh (Y 14)) (hnh : S 22 ≤ nh) (n0 : 0 ≤ S 27) (n6 : S 27 ≤ 6) (hw : ∀ w, 0 ≤ w → w < S 27 → mo_ok Y w ∧ mo_di Y w) (s0 : 0 ≤ S 31) (s9 : S 31 ≤ 9) (h1 : 1 ≤ S 22) (h4 : S 22 ≤ 4) (c1 : 1 ≤ S 23) (c40 : S 23 ≤ 40) (hQ : ∀ M', md M0 M' B (va_up S 34 (m_dy S Y (x, nw)).1) (va_up Y 18 (m_dy S Y (x, nw)).2) → mn_ok (m_dy S Y (x, nw)).2 → ng nh (m_dy S Y (x, nw)).2 → Q none M') : sk_call g d ck sk xX12_drawYear [.inr (.inr (some B))] M Q := by
  have p1 := h.1
  have d1 := dw_in (nx x) (j := 10) (by omega) (by omega)
  unfold m_dy at hQ
  have go : ∀ (M' : sk_M) (s : m_W), s = m_wd S Y (x, nw) → md M0 M' B (va_up S 34 s.1) (va_up Y 18 s.2) → mn_ok s.2 → ng nh s.2 → sk_B (g, d, ck, sk, xX12_drawYear, Q) 85 [some (.inr (.inr (some B))), none, none, none, none] [] M' := by
    intro M' s es h' hn' hg'
    rw [← es] at hQ
    exact m_dy85 (x := s.1) (nw := s.2) (by omega) h' hn' hg' hs hQ
  by_cases e : dw (nx x) 10 < S 31
  · by_cases e0 : 0 < S 27
    · have d2 := dw_in (nx (nx x)) (j := S 27) (by omega) (by omega)
      have d3 := dw_in (nx (nx (nx x))) (j := S 22) (by omega) (by omega)
      have d4 := dw_in (nx (nx (nx (nx x)))) (j := S 23) (by omega) (by omega)
      have d5 := dw_in (nx (nx (nx (nx (nx x))))) (j := 4) (by omega) (by omega)
      have hx5 := md_put (S' := va_up S 34 (nx (nx (nx (nx (nx x)))))) h
      have go2 := fun (M' : sk_M) (s : m_W) (es : s = _) => go M' s (es.trans (by unfold m_wd; rw [if_pos ⟨e, e0⟩] : _ = m_wd S Y (x, nw)))
      simp only [] at go2
      obtain ⟨w1, w2⟩ := hw _ d2.1 d2.2
      have b := hH (2 * dw (nx (nx (nx x))) (S 22)) (by omega) (by omega)
      refine tX12_drawYear_0 _ _ _ ?_
      simp (disch := omega) only [kX12_drawYear_0, po_i, po_l, po_null, po_iload, po_lload, po_aload, po_istore, po_astore, po_iinc, po_iadd, po_isub, po_imul, po_ineg, po_iand, po_ior, po_ishl, po_ishr, po_iushr, po_idiv, po_irem, po_dup, po_dup2, po_pop, po_ifeq, po_ifne, po_iflt, po_ifge, po_ifgt, po_ifle, po_iceq, po_icne, po_iclt, po_icge, po_icgt, po_icle, po_ifnull, po_ifnull1, po_ret, po_iret, po_zret, po_lret, po_aret, po_getf, po_puti, po_putz, po_putl, po_puta, po_iaload, po_iastore, po_alen, po_baload, po_bastore, po_laload, po_lastore, po_aaload, po_aastore, po_invB, po_stcB, po_stcB0, po_iniB, po_new, po_newa, po_obj, po_ladd, po_lsub, po_lmul, po_ldiv, po_lrem, po_land, po_lor, po_lshl, po_lushr, po_i2l, po_l2i, po_i2c, po_lcmp, po_lstore, po_tsw, po_gets, po_max, po_min, po_maxl, po_minl, po_acopy, po_ixor, po_lds, po_slen, po_sidx, po_invT, po_stcT, po_stcT0, sk_swt, kX5_letterIn_0, kX5_handIn_0, kX5_strengthIn_0, kX5_weakened_0, kX5_codeAt_0, kX5_put_0, kX7_isSkin_0, kX7_wide_0, kX7_rows_0, kX7_legible_0, kX7_coinsAtFirst_0, kX7_cells_0, kX7_spots_0, kX7_hasCell_0, kX7_hasRow_0, kX7_hasHand_0, kX7_ofHand_0, kX7_firstOf_0, kX7_rowOf_0, kX7_placeOf_0, kX10_isLetter_0, kX10_signAt_0, kX8_writingAt_0, kX8_lawThatHolds_0, kX8_lets_0, kX9_rewind_0, kX9_step_0, kX9_stepBack_0, kX9_cut_0, kX3_clear_0, kX3_add_0, kX6_judge_0, kX6_swap_0, kX1_push_0, kX1_pop_0, kX0_forget_0, kX11_refuse_0, kX11_draw_0, kX12_in_0, kX12_has_0, kX12_here_0, kX12_bad_0, kX12_isDigit_0, kX12_isSign_0, kX12_isInk_0, kX12_of_0, kX12_setOf_0, kX12_isCell_0, kX12_isHand_0, kX12_isRow_0, kX12_isWriting_0, kX12_isLegible_0, kX12_signOf_0, kX12_areYears_0, kX12_isRefused_0, kX12_draw_0, sk_nth, sk_set, sk_lok, sk_isL, sk_one, sk_pop, sk_wt, sk_cat, sk_ent, sk_pad, sk_tl_n, sk_tl_s, List.length_cons, List.length_nil, true_and, and_true, Bool.not_false, sk_F_at, Option.getD_some, sk_w_id, sk_I_at, sk_isI, false_implies, true_implies, forall_const, ne_eq, not_true_eq_false, not_false_eq_true, implies_true, true_or, or_true, va_up_self, va_up_ne, va_up_up, sk_I_up, p1, md_F0, md_F1, md_F2, md_F3, md_F4, md_F5, md_F6, md_F7, md_F8, md_F9, md_F10, md_F11, md_F12, md_F13, md_F14, md_F15, md_F16, md_F17, md_F18, md_F19, md_F20, md_F21, md_F22, md_F23, md_F24, md_F25, md_F26, md_F27, md_F28, md_F29, md_F30, md_F31, md_F32, md_F33, md_F34, md_F35, md_F36, md_F37, md_F38, md_F39, md_F40, md_F41, md_F42, md_F43, md_F44, md_F45, md_F46, md_F47, md_F48, md_u0, md_u2, md_u3, md_u4, md_u5, md_u13, md_u14, md_u19, md_u22, md_u23, md_u27, md_u30, md_u31, md_u33, md_u35, md_u36, md_u45, md_u48, md_upl, md_upl, sk_wl_id, nx_def, dw_def]
      and_intros <;> intros <;> and_intros <;> intros <;> and_intros <;> intros <;> and_intros <;> intros <;> and_intros <;> intros <;> and_intros <;> intros <;> and_intros <;> intros <;> and_intros <;> intros <;> and_intros <;> intros <;> and_intros <;> intros <;> and_intros <;> intros <;> and_intros <;> intros <;> and_intros <;> try first | omega | rfl | assumption
      clear go
      generalize dw (nx (nx x)) (S 27) = w at *
      generalize dw (nx (nx (nx x))) (S 22) = hh at *
      generalize dw (nx (nx (nx (nx x)))) (S 23) = l at *
      generalize dw (nx (nx (nx (nx (nx x))))) 4 = way at *
      have dd := mo_does_in Y w l way
      have ff := mo_full_in (va_up Y 18 nw) w l way
      have hs' : mo_sk (va_up Y 18 nw) := hs
      have w1' : mo_ok (va_up Y 18 nw) w := w1
      refine m_doesAt (Y := va_up Y 18 nw) (by omega) hx5 hs' w1' d2.1 (by omega) d4.1 (by omega) d5.1 (by omega) ?_
      have e8 : mo_does (va_up Y 18 nw) w l way = mo_does Y w l way := rfl
      rw [e8]
      rcases dd with d0 | d0
      · rw [d0]
        have r := go2 _ (nx (nx (nx (nx (nx x)))), nw) (by rw [if_neg (fun q => by have := q.1; omega)]) hx5 hn hg
        simp (disch := omega) only [po_i, po_l, po_null, po_iload, po_lload, po_aload, po_istore, po_astore, po_iinc, po_iadd, po_isub, po_imul, po_ineg, po_iand, po_ior, po_ishl, po_ishr, po_iushr, po_idiv, po_irem, po_dup, po_dup2, po_pop, po_ifeq, po_ifne, po_iflt, po_ifge, po_ifgt, po_ifle, po_iceq, po_icne, po_iclt, po_icge, po_icgt, po_icle, po_ifnull, po_ifnull1, po_ret, po_iret, po_zret, po_lret, po_aret, po_getf, po_puti, po_putz, po_putl, po_puta, po_iaload, po_iastore, po_alen, po_baload, po_bastore, po_laload, po_lastore, po_aaload, po_aastore, po_invB, po_stcB, po_stcB0, po_iniB, po_new, po_newa, po_obj, po_ladd, po_lsub, po_lmul, po_ldiv, po_lrem, po_land, po_lor, po_lshl, po_lushr, po_i2l, po_l2i, po_i2c, po_lcmp, po_lstore, po_tsw, po_gets, po_max, po_min, po_maxl, po_minl, po_acopy, po_ixor, po_lds, po_slen, po_sidx, po_invT, po_stcT, po_stcT0, sk_swt, kX5_letterIn_0, kX5_handIn_0, kX5_strengthIn_0, kX5_weakened_0, kX5_codeAt_0, kX5_put_0, kX7_isSkin_0, kX7_wide_0, kX7_rows_0, kX7_legible_0, kX7_coinsAtFirst_0, kX7_cells_0, kX7_spots_0, kX7_hasCell_0, kX7_hasRow_0, kX7_hasHand_0, kX7_ofHand_0, kX7_firstOf_0, kX7_rowOf_0, kX7_placeOf_0, kX10_isLetter_0, kX10_signAt_0, kX8_writingAt_0, kX8_lawThatHolds_0, kX8_lets_0, kX9_rewind_0, kX9_step_0, kX9_stepBack_0, kX9_cut_0, kX3_clear_0, kX3_add_0, kX6_judge_0, kX6_swap_0, kX1_push_0, kX1_pop_0, kX0_forget_0, kX11_refuse_0, kX11_draw_0, kX12_in_0, kX12_has_0, kX12_here_0, kX12_bad_0, kX12_isDigit_0, kX12_isSign_0, kX12_isInk_0, kX12_of_0, kX12_setOf_0, kX12_isCell_0, kX12_isHand_0, kX12_isRow_0, kX12_isWriting_0, kX12_isLegible_0, kX12_signOf_0, kX12_areYears_0, kX12_isRefused_0, kX12_draw_0, sk_nth, sk_set, sk_lok, sk_isL, sk_one, sk_pop, sk_wt, sk_cat, sk_ent, sk_pad, sk_tl_n, sk_tl_s, List.length_cons, List.length_nil, true_and, and_true, Bool.not_false, sk_F_at, Option.getD_some, sk_w_id, sk_I_at, sk_isI, false_implies, true_implies, forall_const, ne_eq, not_true_eq_false, not_false_eq_true, implies_true, true_or, or_true, va_up_self, va_up_ne, va_up_up, sk_I_up]
        and_intros <;> intros <;> and_intros <;> intros <;> and_intros <;> intros <;> and_intros <;> intros <;> and_intros <;> intros <;> and_intros <;> intros <;> and_intros <;> intros <;> and_intros <;> intros <;> and_intros <;> intros <;> and_intros <;> intros <;> and_intros <;> intros <;> and_intros <;> intros <;> and_intros <;> try first | omega | rfl | assumption
        exact sk_drop r (by simp [sk_le])
      · rw [d0]
        have hat : ∀ k, 0 ≤ k → k < Y 16 w → 0 ≤ mo_at Y w k l way := by
          intro k k0 k1
          have a := mo_does_1 d0 k k0 k1
          have c := (mo_cell_in (W := Y 13 0) (Hh := Y 13 1) (line := Y 15 (3 * (16 * w + k) + 1)) (i := Y 15 (3 * (16 * w + k) + 2)) (l := l) (way := way) hs.1 hs.2.1 hs.2.2.1 hs.2.2.2).1
          change -1 ≤ mo_at Y w k l way at c
          omega
        simp (disch := omega) only [po_i, po_l, po_null, po_iload, po_lload, po_aload, po_istore, po_astore, po_iinc, po_iadd, po_isub, po_imul, po_ineg, po_iand, po_ior, po_ishl, po_ishr, po_iushr, po_idiv, po_irem, po_dup, po_dup2, po_pop, po_ifeq, po_ifne, po_iflt, po_ifge, po_ifgt, po_ifle, po_iceq, po_icne, po_iclt, po_icge, po_icgt, po_icle, po_ifnull, po_ifnull1, po_ret, po_iret, po_zret, po_lret, po_aret, po_getf, po_puti, po_putz, po_putl, po_puta, po_iaload, po_iastore, po_alen, po_baload, po_bastore, po_laload, po_lastore, po_aaload, po_aastore, po_invB, po_stcB, po_stcB0, po_iniB, po_new, po_newa, po_obj, po_ladd, po_lsub, po_lmul, po_ldiv, po_lrem, po_land, po_lor, po_lshl, po_lushr, po_i2l, po_l2i, po_i2c, po_lcmp, po_lstore, po_tsw, po_gets, po_max, po_min, po_maxl, po_minl, po_acopy, po_ixor, po_lds, po_slen, po_sidx, po_invT, po_stcT, po_stcT0, sk_swt, kX5_letterIn_0, kX5_handIn_0, kX5_strengthIn_0, kX5_weakened_0, kX5_codeAt_0, kX5_put_0, kX7_isSkin_0, kX7_wide_0, kX7_rows_0, kX7_legible_0, kX7_coinsAtFirst_0, kX7_cells_0, kX7_spots_0, kX7_hasCell_0, kX7_hasRow_0, kX7_hasHand_0, kX7_ofHand_0, kX7_firstOf_0, kX7_rowOf_0, kX7_placeOf_0, kX10_isLetter_0, kX10_signAt_0, kX8_writingAt_0, kX8_lawThatHolds_0, kX8_lets_0, kX9_rewind_0, kX9_step_0, kX9_stepBack_0, kX9_cut_0, kX3_clear_0, kX3_add_0, kX6_judge_0, kX6_swap_0, kX1_push_0, kX1_pop_0, kX0_forget_0, kX11_refuse_0, kX11_draw_0, kX12_in_0, kX12_has_0, kX12_here_0, kX12_bad_0, kX12_isDigit_0, kX12_isSign_0, kX12_isInk_0, kX12_of_0, kX12_setOf_0, kX12_isCell_0, kX12_isHand_0, kX12_isRow_0, kX12_isWriting_0, kX12_isLegible_0, kX12_signOf_0, kX12_areYears_0, kX12_isRefused_0, kX12_draw_0, sk_nth, sk_set, sk_lok, sk_isL, sk_one, sk_pop, sk_wt, sk_cat, sk_ent, sk_pad, sk_tl_n, sk_tl_s, List.length_cons, List.length_nil, true_and, and_true, Bool.not_false, sk_F_at, Option.getD_some, sk_w_id, sk_I_at, sk_isI, false_implies, true_implies, forall_const, ne_eq, not_true_eq_false, not_false_eq_true, implies_true, true_or, or_true, va_up_self, va_up_ne, va_up_up, sk_I_up]
        and_intros <;> intros <;> and_intros <;> intros <;> and_intros <;> intros <;> and_intros <;> intros <;> and_intros <;> intros <;> and_intros <;> intros <;> and_intros <;> intros <;> and_intros <;> intros <;> and_intros <;> intros <;> and_intros <;> intros <;> and_intros <;> intros <;> and_intros <;> intros <;> and_intros <;> try first | omega | rfl | assumption
        refine m_isFull (Y := va_up Y 18 nw) (by omega) hx5 (by rw [va_up_self]; exact hn) hs' w1' d2.1 (by omega) d4.1 (by omega) d5.1 (by omega) hat ?_
        rcases ff with f0 | f0
        · rw [f0]
          have r := fun M' => go2 M' (nx (nx (nx (nx (nx x)))), sk_fd (m_wr Y w hh l way (Y 14 (2 * hh))) 0 (Y 16 w).toNat nw) (by rw [if_pos ⟨d0, f0⟩])
          simp (disch := omega) only [po_i, po_l, po_null, po_iload, po_lload, po_aload, po_istore, po_astore, po_iinc, po_iadd, po_isub, po_imul, po_ineg, po_iand, po_ior, po_ishl, po_ishr, po_iushr, po_idiv, po_irem, po_dup, po_dup2, po_pop, po_ifeq, po_ifne, po_iflt, po_ifge, po_ifgt, po_ifle, po_iceq, po_icne, po_iclt, po_icge, po_icgt, po_icle, po_ifnull, po_ifnull1, po_ret, po_iret, po_zret, po_lret, po_aret, po_getf, po_puti, po_putz, po_putl, po_puta, po_iaload, po_iastore, po_alen, po_baload, po_bastore, po_laload, po_lastore, po_aaload, po_aastore, po_invB, po_stcB, po_stcB0, po_iniB, po_new, po_newa, po_obj, po_ladd, po_lsub, po_lmul, po_ldiv, po_lrem, po_land, po_lor, po_lshl, po_lushr, po_i2l, po_l2i, po_i2c, po_lcmp, po_lstore, po_tsw, po_gets, po_max, po_min, po_maxl, po_minl, po_acopy, po_ixor, po_lds, po_slen, po_sidx, po_invT, po_stcT, po_stcT0, sk_swt, kX5_letterIn_0, kX5_handIn_0, kX5_strengthIn_0, kX5_weakened_0, kX5_codeAt_0, kX5_put_0, kX7_isSkin_0, kX7_wide_0, kX7_rows_0, kX7_legible_0, kX7_coinsAtFirst_0, kX7_cells_0, kX7_spots_0, kX7_hasCell_0, kX7_hasRow_0, kX7_hasHand_0, kX7_ofHand_0, kX7_firstOf_0, kX7_rowOf_0, kX7_placeOf_0, kX10_isLetter_0, kX10_signAt_0, kX8_writingAt_0, kX8_lawThatHolds_0, kX8_lets_0, kX9_rewind_0, kX9_step_0, kX9_stepBack_0, kX9_cut_0, kX3_clear_0, kX3_add_0, kX6_judge_0, kX6_swap_0, kX1_push_0, kX1_pop_0, kX0_forget_0, kX11_refuse_0, kX11_draw_0, kX12_in_0, kX12_has_0, kX12_here_0, kX12_bad_0, kX12_isDigit_0, kX12_isSign_0, kX12_isInk_0, kX12_of_0, kX12_setOf_0, kX12_isCell_0, kX12_isHand_0, kX12_isRow_0, kX12_isWriting_0, kX12_isLegible_0, kX12_signOf_0, kX12_areYears_0, kX12_isRefused_0, kX12_draw_0, sk_nth, sk_set, sk_lok, sk_isL, sk_one, sk_pop, sk_wt, sk_cat, sk_ent, sk_pad, sk_tl_n, sk_tl_s, List.length_cons, List.length_nil, true_and, and_true, Bool.not_false, sk_F_at, Option.getD_some, sk_w_id, sk_I_at, sk_isI, false_implies, true_implies, forall_const, ne_eq, not_true_eq_false, not_false_eq_true, implies_true, true_or, or_true, va_up_self, va_up_ne, va_up_up, sk_I_up]
          and_intros <;> intros <;> and_intros <;> intros <;> and_intros <;> intros <;> and_intros <;> intros <;> and_intros <;> intros <;> and_intros <;> intros <;> and_intros <;> intros <;> and_intros <;> intros <;> and_intros <;> intros <;> and_intros <;> intros <;> and_intros <;> intros <;> and_intros <;> intros <;> and_intros <;> try first | omega | rfl | assumption
          have hf := mo_full_0 f0
          rw [va_up_self] at hf
          refine m_writeNow (by omega) hx5 hn hs w1 d2.1 (by omega) d4.1 (by omega) d5.1 (by omega) d3.1 (by omega) b.1 (by omega) hat (m_hroom hs w2 hn d5.1 (by omega) hat hf) (fun M2 h2 hn2 => ?_)
          have r := r M2 h2 hn2 (ng_wr hs w1 d3.1 (by omega) b.1 b.2 (Y 16 w).toNat 0 nw (by omega) (by have := w1.1; omega) hg (fun j a b => hat j a (by omega)))
          simp (disch := omega) only [po_i, po_l, po_null, po_iload, po_lload, po_aload, po_istore, po_astore, po_iinc, po_iadd, po_isub, po_imul, po_ineg, po_iand, po_ior, po_ishl, po_ishr, po_iushr, po_idiv, po_irem, po_dup, po_dup2, po_pop, po_ifeq, po_ifne, po_iflt, po_ifge, po_ifgt, po_ifle, po_iceq, po_icne, po_iclt, po_icge, po_icgt, po_icle, po_ifnull, po_ifnull1, po_ret, po_iret, po_zret, po_lret, po_aret, po_getf, po_puti, po_putz, po_putl, po_puta, po_iaload, po_iastore, po_alen, po_baload, po_bastore, po_laload, po_lastore, po_aaload, po_aastore, po_invB, po_stcB, po_stcB0, po_iniB, po_new, po_newa, po_obj, po_ladd, po_lsub, po_lmul, po_ldiv, po_lrem, po_land, po_lor, po_lshl, po_lushr, po_i2l, po_l2i, po_i2c, po_lcmp, po_lstore, po_tsw, po_gets, po_max, po_min, po_maxl, po_minl, po_acopy, po_ixor, po_lds, po_slen, po_sidx, po_invT, po_stcT, po_stcT0, sk_swt, kX5_letterIn_0, kX5_handIn_0, kX5_strengthIn_0, kX5_weakened_0, kX5_codeAt_0, kX5_put_0, kX7_isSkin_0, kX7_wide_0, kX7_rows_0, kX7_legible_0, kX7_coinsAtFirst_0, kX7_cells_0, kX7_spots_0, kX7_hasCell_0, kX7_hasRow_0, kX7_hasHand_0, kX7_ofHand_0, kX7_firstOf_0, kX7_rowOf_0, kX7_placeOf_0, kX10_isLetter_0, kX10_signAt_0, kX8_writingAt_0, kX8_lawThatHolds_0, kX8_lets_0, kX9_rewind_0, kX9_step_0, kX9_stepBack_0, kX9_cut_0, kX3_clear_0, kX3_add_0, kX6_judge_0, kX6_swap_0, kX1_push_0, kX1_pop_0, kX0_forget_0, kX11_refuse_0, kX11_draw_0, kX12_in_0, kX12_has_0, kX12_here_0, kX12_bad_0, kX12_isDigit_0, kX12_isSign_0, kX12_isInk_0, kX12_of_0, kX12_setOf_0, kX12_isCell_0, kX12_isHand_0, kX12_isRow_0, kX12_isWriting_0, kX12_isLegible_0, kX12_signOf_0, kX12_areYears_0, kX12_isRefused_0, kX12_draw_0, sk_nth, sk_set, sk_lok, sk_isL, sk_one, sk_pop, sk_wt, sk_cat, sk_ent, sk_pad, sk_tl_n, sk_tl_s, List.length_cons, List.length_nil, true_and, and_true, Bool.not_false, sk_F_at, Option.getD_some, sk_w_id, sk_I_at, sk_isI, false_implies, true_implies, forall_const, ne_eq, not_true_eq_false, not_false_eq_true, implies_true, true_or, or_true, va_up_self, va_up_ne, va_up_up, sk_I_up]
          exact sk_drop r (by simp [sk_le])
        · rw [f0]
          have r := go2 _ (nx (nx (nx (nx (nx x)))), nw) (by rw [if_neg (fun q => by have := q.2; omega)]) hx5 hn hg
          simp (disch := omega) only [po_i, po_l, po_null, po_iload, po_lload, po_aload, po_istore, po_astore, po_iinc, po_iadd, po_isub, po_imul, po_ineg, po_iand, po_ior, po_ishl, po_ishr, po_iushr, po_idiv, po_irem, po_dup, po_dup2, po_pop, po_ifeq, po_ifne, po_iflt, po_ifge, po_ifgt, po_ifle, po_iceq, po_icne, po_iclt, po_icge, po_icgt, po_icle, po_ifnull, po_ifnull1, po_ret, po_iret, po_zret, po_lret, po_aret, po_getf, po_puti, po_putz, po_putl, po_puta, po_iaload, po_iastore, po_alen, po_baload, po_bastore, po_laload, po_lastore, po_aaload, po_aastore, po_invB, po_stcB, po_stcB0, po_iniB, po_new, po_newa, po_obj, po_ladd, po_lsub, po_lmul, po_ldiv, po_lrem, po_land, po_lor, po_lshl, po_lushr, po_i2l, po_l2i, po_i2c, po_lcmp, po_lstore, po_tsw, po_gets, po_max, po_min, po_maxl, po_minl, po_acopy, po_ixor, po_lds, po_slen, po_sidx, po_invT, po_stcT, po_stcT0, sk_swt, kX5_letterIn_0, kX5_handIn_0, kX5_strengthIn_0, kX5_weakened_0, kX5_codeAt_0, kX5_put_0, kX7_isSkin_0, kX7_wide_0, kX7_rows_0, kX7_legible_0, kX7_coinsAtFirst_0, kX7_cells_0, kX7_spots_0, kX7_hasCell_0, kX7_hasRow_0, kX7_hasHand_0, kX7_ofHand_0, kX7_firstOf_0, kX7_rowOf_0, kX7_placeOf_0, kX10_isLetter_0, kX10_signAt_0, kX8_writingAt_0, kX8_lawThatHolds_0, kX8_lets_0, kX9_rewind_0, kX9_step_0, kX9_stepBack_0, kX9_cut_0, kX3_clear_0, kX3_add_0, kX6_judge_0, kX6_swap_0, kX1_push_0, kX1_pop_0, kX0_forget_0, kX11_refuse_0, kX11_draw_0, kX12_in_0, kX12_has_0, kX12_here_0, kX12_bad_0, kX12_isDigit_0, kX12_isSign_0, kX12_isInk_0, kX12_of_0, kX12_setOf_0, kX12_isCell_0, kX12_isHand_0, kX12_isRow_0, kX12_isWriting_0, kX12_isLegible_0, kX12_signOf_0, kX12_areYears_0, kX12_isRefused_0, kX12_draw_0, sk_nth, sk_set, sk_lok, sk_isL, sk_one, sk_pop, sk_wt, sk_cat, sk_ent, sk_pad, sk_tl_n, sk_tl_s, List.length_cons, List.length_nil, true_and, and_true, Bool.not_false, sk_F_at, Option.getD_some, sk_w_id, sk_I_at, sk_isI, false_implies, true_implies, forall_const, ne_eq, not_true_eq_false, not_false_eq_true, implies_true, true_or, or_true, va_up_self, va_up_ne, va_up_up, sk_I_up]
          and_intros <;> intros <;> and_intros <;> intros <;> and_intros <;> intros <;> and_intros <;> intros <;> and_intros <;> intros <;> and_intros <;> intros <;> and_intros <;> intros <;> and_intros <;> intros <;> and_intros <;> intros <;> and_intros <;> intros <;> and_intros <;> intros <;> and_intros <;> intros <;> and_intros <;> try first | omega | rfl | assumption
          exact sk_drop r (by simp [sk_le])
    · have r := go _ (nx x, nw) (by unfold m_wd; rw [if_neg (fun q => e0 q.2)]) (md_put (S' := va_up S 34 (nx x)) h) hn hg
      refine tX12_drawYear_0 _ _ _ ?_
      simp (disch := omega) only [kX12_drawYear_0, po_i, po_l, po_null, po_iload, po_lload, po_aload, po_istore, po_astore, po_iinc, po_iadd, po_isub, po_imul, po_ineg, po_iand, po_ior, po_ishl, po_ishr, po_iushr, po_idiv, po_irem, po_dup, po_dup2, po_pop, po_ifeq, po_ifne, po_iflt, po_ifge, po_ifgt, po_ifle, po_iceq, po_icne, po_iclt, po_icge, po_icgt, po_icle, po_ifnull, po_ifnull1, po_ret, po_iret, po_zret, po_lret, po_aret, po_getf, po_puti, po_putz, po_putl, po_puta, po_iaload, po_iastore, po_alen, po_baload, po_bastore, po_laload, po_lastore, po_aaload, po_aastore, po_invB, po_stcB, po_stcB0, po_iniB, po_new, po_newa, po_obj, po_ladd, po_lsub, po_lmul, po_ldiv, po_lrem, po_land, po_lor, po_lshl, po_lushr, po_i2l, po_l2i, po_i2c, po_lcmp, po_lstore, po_tsw, po_gets, po_max, po_min, po_maxl, po_minl, po_acopy, po_ixor, po_lds, po_slen, po_sidx, po_invT, po_stcT, po_stcT0, sk_swt, kX5_letterIn_0, kX5_handIn_0, kX5_strengthIn_0, kX5_weakened_0, kX5_codeAt_0, kX5_put_0, kX7_isSkin_0, kX7_wide_0, kX7_rows_0, kX7_legible_0, kX7_coinsAtFirst_0, kX7_cells_0, kX7_spots_0, kX7_hasCell_0, kX7_hasRow_0, kX7_hasHand_0, kX7_ofHand_0, kX7_firstOf_0, kX7_rowOf_0, kX7_placeOf_0, kX10_isLetter_0, kX10_signAt_0, kX8_writingAt_0, kX8_lawThatHolds_0, kX8_lets_0, kX9_rewind_0, kX9_step_0, kX9_stepBack_0, kX9_cut_0, kX3_clear_0, kX3_add_0, kX6_judge_0, kX6_swap_0, kX1_push_0, kX1_pop_0, kX0_forget_0, kX11_refuse_0, kX11_draw_0, kX12_in_0, kX12_has_0, kX12_here_0, kX12_bad_0, kX12_isDigit_0, kX12_isSign_0, kX12_isInk_0, kX12_of_0, kX12_setOf_0, kX12_isCell_0, kX12_isHand_0, kX12_isRow_0, kX12_isWriting_0, kX12_isLegible_0, kX12_signOf_0, kX12_areYears_0, kX12_isRefused_0, kX12_draw_0, sk_nth, sk_set, sk_lok, sk_isL, sk_one, sk_pop, sk_wt, sk_cat, sk_ent, sk_pad, sk_tl_n, sk_tl_s, List.length_cons, List.length_nil, true_and, and_true, Bool.not_false, sk_F_at, Option.getD_some, sk_w_id, sk_I_at, sk_isI, false_implies, true_implies, forall_const, ne_eq, not_true_eq_false, not_false_eq_true, implies_true, true_or, or_true, va_up_self, va_up_ne, va_up_up, sk_I_up, p1, md_F0, md_F1, md_F2, md_F3, md_F4, md_F5, md_F6, md_F7, md_F8, md_F9, md_F10, md_F11, md_F12, md_F13, md_F14, md_F15, md_F16, md_F17, md_F18, md_F19, md_F20, md_F21, md_F22, md_F23, md_F24, md_F25, md_F26, md_F27, md_F28, md_F29, md_F30, md_F31, md_F32, md_F33, md_F34, md_F35, md_F36, md_F37, md_F38, md_F39, md_F40, md_F41, md_F42, md_F43, md_F44, md_F45, md_F46, md_F47, md_F48, md_u0, md_u2, md_u3, md_u4, md_u5, md_u13, md_u14, md_u19, md_u22, md_u23, md_u27, md_u30, md_u31, md_u33, md_u35, md_u36, md_u45, md_u48, md_upl, md_upl, sk_wl_id, nx_def, dw_def]
      and_intros <;> intros <;> and_intros <;> intros <;> and_intros <;> intros <;> and_intros <;> intros <;> and_intros <;> intros <;> and_intros <;> intros <;> and_intros <;> intros <;> and_intros <;> intros <;> and_intros <;> intros <;> and_intros <;> intros <;> and_intros <;> intros <;> and_intros <;> intros <;> and_intros <;> try first | omega | rfl | assumption
  · have r := go _ (nx x, nw) (by unfold m_wd; rw [if_neg (fun q => e q.1)]) (md_put (S' := va_up S 34 (nx x)) h) hn hg
    refine tX12_drawYear_0 _ _ _ ?_
    simp (disch := omega) only [kX12_drawYear_0, po_i, po_l, po_null, po_iload, po_lload, po_aload, po_istore, po_astore, po_iinc, po_iadd, po_isub, po_imul, po_ineg, po_iand, po_ior, po_ishl, po_ishr, po_iushr, po_idiv, po_irem, po_dup, po_dup2, po_pop, po_ifeq, po_ifne, po_iflt, po_ifge, po_ifgt, po_ifle, po_iceq, po_icne, po_iclt, po_icge, po_icgt, po_icle, po_ifnull, po_ifnull1, po_ret, po_iret, po_zret, po_lret, po_aret, po_getf, po_puti, po_putz, po_putl, po_puta, po_iaload, po_iastore, po_alen, po_baload, po_bastore, po_laload, po_lastore, po_aaload, po_aastore, po_invB, po_stcB, po_stcB0, po_iniB, po_new, po_newa, po_obj, po_ladd, po_lsub, po_lmul, po_ldiv, po_lrem, po_land, po_lor, po_lshl, po_lushr, po_i2l, po_l2i, po_i2c, po_lcmp, po_lstore, po_tsw, po_gets, po_max, po_min, po_maxl, po_minl, po_acopy, po_ixor, po_lds, po_slen, po_sidx, po_invT, po_stcT, po_stcT0, sk_swt, kX5_letterIn_0, kX5_handIn_0, kX5_strengthIn_0, kX5_weakened_0, kX5_codeAt_0, kX5_put_0, kX7_isSkin_0, kX7_wide_0, kX7_rows_0, kX7_legible_0, kX7_coinsAtFirst_0, kX7_cells_0, kX7_spots_0, kX7_hasCell_0, kX7_hasRow_0, kX7_hasHand_0, kX7_ofHand_0, kX7_firstOf_0, kX7_rowOf_0, kX7_placeOf_0, kX10_isLetter_0, kX10_signAt_0, kX8_writingAt_0, kX8_lawThatHolds_0, kX8_lets_0, kX9_rewind_0, kX9_step_0, kX9_stepBack_0, kX9_cut_0, kX3_clear_0, kX3_add_0, kX6_judge_0, kX6_swap_0, kX1_push_0, kX1_pop_0, kX0_forget_0, kX11_refuse_0, kX11_draw_0, kX12_in_0, kX12_has_0, kX12_here_0, kX12_bad_0, kX12_isDigit_0, kX12_isSign_0, kX12_isInk_0, kX12_of_0, kX12_setOf_0, kX12_isCell_0, kX12_isHand_0, kX12_isRow_0, kX12_isWriting_0, kX12_isLegible_0, kX12_signOf_0, kX12_areYears_0, kX12_isRefused_0, kX12_draw_0, sk_nth, sk_set, sk_lok, sk_isL, sk_one, sk_pop, sk_wt, sk_cat, sk_ent, sk_pad, sk_tl_n, sk_tl_s, List.length_cons, List.length_nil, true_and, and_true, Bool.not_false, sk_F_at, Option.getD_some, sk_w_id, sk_I_at, sk_isI, false_implies, true_implies, forall_const, ne_eq, not_true_eq_false, not_false_eq_true, implies_true, true_or, or_true, va_up_self, va_up_ne, va_up_up, sk_I_up, p1, md_F0, md_F1, md_F2, md_F3, md_F4, md_F5, md_F6, md_F7, md_F8, md_F9, md_F10, md_F11, md_F12, md_F13, md_F14, md_F15, md_F16, md_F17, md_F18, md_F19, md_F20, md_F21, md_F22, md_F23, md_F24, md_F25, md_F26, md_F27, md_F28, md_F29, md_F30, md_F31, md_F32, md_F33, md_F34, md_F35, md_F36, md_F37, md_F38, md_F39, md_F40, md_F41, md_F42, md_F43, md_F44, md_F45, md_F46, md_F47, md_F48, md_u0, md_u2, md_u3, md_u4, md_u5, md_u13, md_u14, md_u19, md_u22, md_u23, md_u27, md_u30, md_u31, md_u33, md_u35, md_u36, md_u45, md_u48, md_upl, md_upl, sk_wl_id, nx_def, dw_def]
    and_intros <;> intros <;> and_intros <;> intros <;> and_intros <;> intros <;> and_intros <;> intros <;> and_intros <;> intros <;> and_intros <;> intros <;> and_intros <;> intros <;> and_intros <;> intros <;> and_intros <;> intros <;> and_intros <;> intros <;> and_intros <;> intros <;> and_intros <;> intros <;> and_intros <;> try first | omega | rfl | assumption
end MDRAW
