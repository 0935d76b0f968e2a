/-! ===== writings: the reference's whole reading ===== -/
theorem mS_of (S : Nat → Int) (i wr : Int) : va_up (va_up S 3 i) 4 wr = mS S i wr (S 5) := by
  funext j
  unfold va_up mS
  by_cases h4 : j = 4
  · subst h4; rfl
  · by_cases h3 : j = 3
    · subst h3; rfl
    · by_cases h5 : j = 5
      · subst h5; rfl
      · simp [h3, h4, h5]
theorem mW_of (Y : Nat → Int → Int) (f : Int → Int) : va_up Y 16 f = mW Y (Y 15) f (Y 17) := by
  funext j
  unfold va_up mW
  by_cases h4 : j = 16
  · subst h4; rfl
  · by_cases h3 : j = 15
    · subst h3; rfl
    · by_cases h5 : j = 17
      · subst h5; rfl
      · simp [h3, h4, h5]
section WRO
variable {g : sk_G} {d ck sk : Nat} {M M0 : sk_M} {Q : sk_P} {B : Nat} {S : Nat → Int} {Y : Nat → Int → Int} {w : Int}
theorem m_readWriting (hd : 11 ≤ d) (hT : tp_ok (Y 1) (S 2)) (w0 : 0 ≤ w) (w6 : w ≤ 6) (h : md M0 M B S Y)
    (hQ : ∀ M' wr', (wr' = -1 ↔ (rw' (Y 1) (S 2) 4 0 0).1 = true ∧ wr_any (wf (rw' (Y 1) (S 2) 4 0 0).2.2) = true) → (wr' ≠ -1 → wr' = (rw' (Y 1) (S 2) 4 0 0).2.1) → wms M0 B S Y w M' (rw' (Y 1) (S 2) 4 0 0).2.1 wr' (wf (rw' (Y 1) (S 2) 4 0 0).2.2).length (lp_app (Y 15) (48 * w) (wf_tri 0 (rw' (Y 1) (S 2) 4 0 0).2.2)) (lp_app (lp_app (Y 17) (4 * w) [0, 0, 0, 0]) (4 * w) (wf_le (rw' (Y 1) (S 2) 4 0 0).2.2)) → Q (some (.inl wr')) M') : sk_call g d ck sk xX12_readWriting [.inr (.inr (some B)), .inl w] M Q := by
  have q0 := h.1
  have y16 := md_y16 h
  have g1 := md_a16 (f := sk_up (Y 16) w 0) (md_put (S' := va_up (va_up S 3 0) 4 (-1)) h)
  have hn0 := hT.1
  have key : ∀ (k : Nat) (j : Int) (ll : Int → Int) (M : sk_M), (k : Int) + j = 4 → 0 ≤ j → wms M0 B S Y w M 0 (-1) 0 (Y 15) ll → (∀ M', wms M0 B S Y w M' 0 (-1) 0 (Y 15) (lp_app ll (4 * w + j) (List.replicate k 0)) → sk_B (g, d, ck, sk, xX12_readWriting, Q) 48 [some (.inr (.inr (some B))), some (.inl w), some (.inl 0), some (.inl 0), some (.inl 1)] [] M') → sk_B (g, d, ck, sk, xX12_readWriting, Q) 19 [some (.inr (.inr (some B))), some (.inl w), some (.inl j), none, none] [] M := by
    intro k
    induction k with
    | zero =>
      intro j ll M hk j0 h hQ
      have := hQ M (by simpa [lp_app] using h)
      refine tX12_readWriting_19 _ _ _ ?_
      simp (disch := omega) only [kX12_readWriting_19, po_i, po_l, po_null, po_iload, po_lload, po_aload, po_istore, po_astore, po_iinc, po_iadd, po_isub, po_imul, po_ineg, po_iand, po_ior, po_ishl, po_ishr, po_iushr, po_idiv, po_irem, po_dup, po_dup2, po_pop, po_ifeq, po_ifne, po_iflt, po_ifge, po_ifgt, po_ifle, po_iceq, po_icne, po_iclt, po_icge, po_icgt, po_icle, po_ifnull, po_ifnull1, po_ret, po_iret, po_zret, po_lret, po_aret, po_getf, po_puti, po_putz, po_putl, po_puta, po_iaload, po_iastore, po_alen, po_baload, po_bastore, po_laload, po_lastore, po_aaload, po_aastore, po_invB, po_stcB, po_stcB0, po_iniB, po_new, po_newa, po_obj, po_ladd, po_lsub, po_lmul, po_ldiv, po_lrem, po_land, po_lor, po_lshl, po_lushr, po_i2l, po_l2i, po_i2c, po_lcmp, po_lstore, po_tsw, po_gets, po_max, po_min, po_maxl, po_minl, po_acopy, po_ixor, po_lds, po_slen, po_sidx, po_invT, po_stcT, po_stcT0, sk_swt, kX5_letterIn_0, kX5_handIn_0, kX5_strengthIn_0, kX5_weakened_0, kX5_codeAt_0, kX5_put_0, kX7_isSkin_0, kX7_wide_0, kX7_rows_0, kX7_legible_0, kX7_coinsAtFirst_0, kX7_cells_0, kX7_spots_0, kX7_hasCell_0, kX7_hasRow_0, kX7_hasHand_0, kX7_ofHand_0, kX7_firstOf_0, kX7_rowOf_0, kX7_placeOf_0, kX10_isLetter_0, kX10_signAt_0, kX8_writingAt_0, kX8_lawThatHolds_0, kX8_lets_0, kX9_rewind_0, kX9_step_0, kX9_stepBack_0, kX9_cut_0, kX3_clear_0, kX3_add_0, kX6_judge_0, kX6_swap_0, kX1_push_0, kX1_pop_0, kX0_forget_0, kX11_refuse_0, kX11_draw_0, kX12_in_0, kX12_has_0, kX12_here_0, kX12_bad_0, kX12_isDigit_0, kX12_isSign_0, kX12_isInk_0, kX12_of_0, kX12_setOf_0, kX12_isCell_0, kX12_isHand_0, kX12_isRow_0, kX12_isWriting_0, kX12_isLegible_0, kX12_signOf_0, kX12_areYears_0, kX12_isRefused_0, kX12_draw_0, sk_nth, sk_set, sk_lok, sk_isL, sk_one, sk_pop, sk_wt, sk_cat, sk_ent, sk_pad, sk_tl_n, sk_tl_s, List.length_cons, List.length_nil, true_and, and_true, Bool.not_false, sk_F_at, Option.getD_some, sk_w_id, sk_I_at, sk_isI, false_implies, true_implies, forall_const, ne_eq, not_true_eq_false, not_false_eq_true, implies_true, true_or, or_true, va_up_self, va_up_ne, va_up_up, sk_I_up]
      and_intros <;> intros <;> and_intros <;> intros <;> and_intros <;> intros <;> and_intros <;> intros <;> and_intros <;> intros <;> and_intros <;> intros <;> and_intros <;> intros <;> and_intros <;> intros <;> and_intros <;> intros <;> and_intros <;> intros <;> and_intros <;> intros <;> and_intros <;> intros <;> and_intros <;> try first | omega | rfl | assumption
    | succ k ih =>
      intro j ll M hk j0 h hQ
      have q := h.1.1
      have y17 := wms_y17 h
      have h2 := wms_17 (f := sk_up ll (4 * w + j) 0) h
      have ih2 := ih (j + 1) _ _ (by omega) (by omega) h2 (fun M' h' => hQ M' (by
        simp only [List.replicate_succ, lp_app]
        rw [show 4 * w + j + 1 = 4 * w + (j + 1) by omega]
        exact h'))
      refine tX12_readWriting_19 _ _ _ ?_
      simp (disch := omega) only [kX12_readWriting_19, po_i, po_l, po_null, po_iload, po_lload, po_aload, po_istore, po_astore, po_iinc, po_iadd, po_isub, po_imul, po_ineg, po_iand, po_ior, po_ishl, po_ishr, po_iushr, po_idiv, po_irem, po_dup, po_dup2, po_pop, po_ifeq, po_ifne, po_iflt, po_ifge, po_ifgt, po_ifle, po_iceq, po_icne, po_iclt, po_icge, po_icgt, po_icle, po_ifnull, po_ifnull1, po_ret, po_iret, po_zret, po_lret, po_aret, po_getf, po_puti, po_putz, po_putl, po_puta, po_iaload, po_iastore, po_alen, po_baload, po_bastore, po_laload, po_lastore, po_aaload, po_aastore, po_invB, po_stcB, po_stcB0, po_iniB, po_new, po_newa, po_obj, po_ladd, po_lsub, po_lmul, po_ldiv, po_lrem, po_land, po_lor, po_lshl, po_lushr, po_i2l, po_l2i, po_i2c, po_lcmp, po_lstore, po_tsw, po_gets, po_max, po_min, po_maxl, po_minl, po_acopy, po_ixor, po_lds, po_slen, po_sidx, po_invT, po_stcT, po_stcT0, sk_swt, kX5_letterIn_0, kX5_handIn_0, kX5_strengthIn_0, kX5_weakened_0, kX5_codeAt_0, kX5_put_0, kX7_isSkin_0, kX7_wide_0, kX7_rows_0, kX7_legible_0, kX7_coinsAtFirst_0, kX7_cells_0, kX7_spots_0, kX7_hasCell_0, kX7_hasRow_0, kX7_hasHand_0, kX7_ofHand_0, kX7_firstOf_0, kX7_rowOf_0, kX7_placeOf_0, kX10_isLetter_0, kX10_signAt_0, kX8_writingAt_0, kX8_lawThatHolds_0, kX8_lets_0, kX9_rewind_0, kX9_step_0, kX9_stepBack_0, kX9_cut_0, kX3_clear_0, kX3_add_0, kX6_judge_0, kX6_swap_0, kX1_push_0, kX1_pop_0, kX0_forget_0, kX11_refuse_0, kX11_draw_0, kX12_in_0, kX12_has_0, kX12_here_0, kX12_bad_0, kX12_isDigit_0, kX12_isSign_0, kX12_isInk_0, kX12_of_0, kX12_setOf_0, kX12_isCell_0, kX12_isHand_0, kX12_isRow_0, kX12_isWriting_0, kX12_isLegible_0, kX12_signOf_0, kX12_areYears_0, kX12_isRefused_0, kX12_draw_0, sk_nth, sk_set, sk_lok, sk_isL, sk_one, sk_pop, sk_wt, sk_cat, sk_ent, sk_pad, sk_tl_n, sk_tl_s, List.length_cons, List.length_nil, true_and, and_true, Bool.not_false, sk_F_at, Option.getD_some, sk_w_id, sk_I_at, sk_isI, false_implies, true_implies, forall_const, ne_eq, not_true_eq_false, not_false_eq_true, implies_true, true_or, or_true, va_up_self, va_up_ne, va_up_up, sk_I_up, q, y17, md_F0, md_F1, md_F2, md_F3, md_F4, md_F5, md_F6, md_F7, md_F8, md_F9, md_F10, md_F11, md_F12, md_F13, md_F14, md_F15, md_F16, md_F17, md_F18, md_F19, md_F20, md_F21, md_F22, md_F23, md_F24, md_F25, md_F26, md_F27, md_F28, md_F29, md_F30, md_F31, md_F32, md_F33, md_F34, md_F35, md_F36, md_F37, md_F38, md_F39, md_F40, md_F41, md_F42, md_F43, md_F44, md_F45, md_F46, md_F47, md_F48, md_u0, md_u2, md_u3, md_u4, md_u5, md_u13, md_u14, md_u19, md_u22, md_u23, md_u27, md_u30, md_u31, md_u33, md_u35, md_u36, md_u45, md_u48, md_upl]
      and_intros <;> intros <;> and_intros <;> intros <;> and_intros <;> intros <;> and_intros <;> intros <;> and_intros <;> intros <;> and_intros <;> intros <;> and_intros <;> intros <;> and_intros <;> intros <;> and_intros <;> intros <;> and_intros <;> intros <;> and_intros <;> intros <;> and_intros <;> intros <;> and_intros <;> try first | omega | rfl | assumption
  rw [mS_of, mW_of] at g1
  refine tX12_readWriting_0 _ _ _ ?_
  simp (disch := omega) only [kX12_readWriting_0, po_i, po_l, po_null, po_iload, po_lload, po_aload, po_istore, po_astore, po_iinc, po_iadd, po_isub, po_imul, po_ineg, po_iand, po_ior, po_ishl, po_ishr, po_iushr, po_idiv, po_irem, po_dup, po_dup2, po_pop, po_ifeq, po_ifne, po_iflt, po_ifge, po_ifgt, po_ifle, po_iceq, po_icne, po_iclt, po_icge, po_icgt, po_icle, po_ifnull, po_ifnull1, po_ret, po_iret, po_zret, po_lret, po_aret, po_getf, po_puti, po_putz, po_putl, po_puta, po_iaload, po_iastore, po_alen, po_baload, po_bastore, po_laload, po_lastore, po_aaload, po_aastore, po_invB, po_stcB, po_stcB0, po_iniB, po_new, po_newa, po_obj, po_ladd, po_lsub, po_lmul, po_ldiv, po_lrem, po_land, po_lor, po_lshl, po_lushr, po_i2l, po_l2i, po_i2c, po_lcmp, po_lstore, po_tsw, po_gets, po_max, po_min, po_maxl, po_minl, po_acopy, po_ixor, po_lds, po_slen, po_sidx, po_invT, po_stcT, po_stcT0, sk_swt, kX5_letterIn_0, kX5_handIn_0, kX5_strengthIn_0, kX5_weakened_0, kX5_codeAt_0, kX5_put_0, kX7_isSkin_0, kX7_wide_0, kX7_rows_0, kX7_legible_0, kX7_coinsAtFirst_0, kX7_cells_0, kX7_spots_0, kX7_hasCell_0, kX7_hasRow_0, kX7_hasHand_0, kX7_ofHand_0, kX7_firstOf_0, kX7_rowOf_0, kX7_placeOf_0, kX10_isLetter_0, kX10_signAt_0, kX8_writingAt_0, kX8_lawThatHolds_0, kX8_lets_0, kX9_rewind_0, kX9_step_0, kX9_stepBack_0, kX9_cut_0, kX3_clear_0, kX3_add_0, kX6_judge_0, kX6_swap_0, kX1_push_0, kX1_pop_0, kX0_forget_0, kX11_refuse_0, kX11_draw_0, kX12_in_0, kX12_has_0, kX12_here_0, kX12_bad_0, kX12_isDigit_0, kX12_isSign_0, kX12_isInk_0, kX12_of_0, kX12_setOf_0, kX12_isCell_0, kX12_isHand_0, kX12_isRow_0, kX12_isWriting_0, kX12_isLegible_0, kX12_signOf_0, kX12_areYears_0, kX12_isRefused_0, kX12_draw_0, sk_nth, sk_set, sk_lok, sk_isL, sk_one, sk_pop, sk_wt, sk_cat, sk_ent, sk_pad, sk_tl_n, sk_tl_s, List.length_cons, List.length_nil, true_and, and_true, Bool.not_false, sk_F_at, Option.getD_some, sk_w_id, sk_I_at, sk_isI, false_implies, true_implies, forall_const, ne_eq, not_true_eq_false, not_false_eq_true, implies_true, true_or, or_true, va_up_self, va_up_ne, va_up_up, sk_I_up, q0, y16, md_F0, md_F1, md_F2, md_F3, md_F4, md_F5, md_F6, md_F7, md_F8, md_F9, md_F10, md_F11, md_F12, md_F13, md_F14, md_F15, md_F16, md_F17, md_F18, md_F19, md_F20, md_F21, md_F22, md_F23, md_F24, md_F25, md_F26, md_F27, md_F28, md_F29, md_F30, md_F31, md_F32, md_F33, md_F34, md_F35, md_F36, md_F37, md_F38, md_F39, md_F40, md_F41, md_F42, md_F43, md_F44, md_F45, md_F46, md_F47, md_F48, md_u0, md_u2, md_u3, md_u4, md_u5, md_u13, md_u14, md_u19, md_u22, md_u23, md_u27, md_u30, md_u31, md_u33, md_u35, md_u36, md_u45, md_u48, md_upl, mS_of]
  and_intros <;> intros <;> and_intros <;> intros <;> and_intros <;> intros <;> and_intros <;> intros <;> and_intros <;> intros <;> and_intros <;> intros <;> and_intros <;> intros <;> and_intros <;> intros <;> and_intros <;> intros <;> and_intros <;> intros <;> and_intros <;> intros <;> and_intros <;> intros <;> and_intros <;> try first | omega | rfl | assumption
  refine key 4 0 (Y 17) _ (by omega) (by omega) ⟨g1, hT⟩ (fun M2 h2 => ?_)
  refine m_wrLoop (isL := false) (by omega) hT w0 w6 4 0 0 0 _ _ M2 (by omega) (by omega) (by omega) (by omega) hn0 (by omega) (by omega) h2 (fun M' wr' e1 e2 h' => ?_)
  rw [Bool.false_or] at e1
  refine hQ M' wr' e1 e2 ?_
  have e3 : 3 * (16 * w + 0) = 48 * w := by omega
  have e4 : 4 * w + 0 = 4 * w := by omega
  have e5 : (0 : Int) + (wf (rw' (Y 1) (S 2) 4 0 0).2.2).length = (wf (rw' (Y 1) (S 2) 4 0 0).2.2).length := by omega
  rw [e3, e4, e5] at h'
  exact h'
end WRO
