/-! ===== laws: the class runs a step, a law ===== -/
section LAWRUN
variable {g : sk_G} {d ck sk : Nat} {M M0 : sk_M} {Q : sk_P} {a sa la ka : Nat} {len top : Int} {st lf kk le : Int → Int} {stk stk2 : List Int}
theorem lv_step_len {w : Int} (h : lv_step le w stk = some stk2) (hs : stk.length ≤ 32) : stk2.length ≤ 32 := by
  unfold lv_step at h
  split at h
  · split at h
    · cases h; simp only [List.length_cons]; omega
    · simp at h
  · split at h
    · split at h
      · cases h; simp only [List.length_cons]; omega
      · simp at h
    · split at h
      · split at h
        · split at h
          · cases h; simpa using hs
          · simp at h
        · simp at h
      · split at h
        · split at h
          · split at h
            · cases h; simp only [List.length_cons] at hs ⊢; omega
            · simp at h
          · simp at h
        · simp at h
theorem c_run {w : Int} (hd : 5 ≤ d) (h : lws M0 M a sa la ka len stk.length st lf kk) (hk : lk kk stk) (hle : ∀ j, 0 ≤ j → j < 6 → lf j = le j ∧ lb (le j)) (hs : stk.length ≤ 32) (hb : lbs stk) (hw : lv_step le w stk = some stk2) (hQ : ∀ M' kk', lws M0 M' a sa la ka len stk2.length st lf kk' → lk kk' stk2 → Q none M') : sk_call g d ck sk xX1_run [.inr (.inr (some a)), .inl (w % 16), .inl (w / 16)] M Q := by
  have p1 := h.1.1
  have p3 := h.1.2.2.1
  have p4 := h.1.2.2.2
  obtain ⟨n1, n2, n3, n4, n5, n6⟩ := lwo_ne h.1
  unfold lv_step at hw
  by_cases e0 : w % 16 = 0
  · rw [if_pos e0] at hw
    split at hw
    · next e1 =>
      cases hw
      have hR := hQ _ _ (lws_top (t := ((w / 16 :: stk).length : Nat)) (lws_ka (f := sk_up kk stk.length (w / 16)) h)) ⟨sk_up_self _ _ _, lk_up hk (by omega)⟩
      simp only [List.length_cons] at hR
      push_cast at hR
      refine tX1_run_0 _ _ _ ?_
      simp (disch := omega) only [kX1_run_0, po_i, po_l, po_null, po_iload, po_lload, po_aload, po_istore, po_astore, po_iinc, po_iadd, po_isub, po_imul, po_ineg, po_iand, po_ior, po_ishl, po_ishr, po_iushr, po_idiv, po_irem, po_dup, po_dup2, po_pop, po_ifeq, po_ifne, po_iflt, po_ifge, po_ifgt, po_ifle, po_iceq, po_icne, po_iclt, po_icge, po_icgt, po_icle, po_ifnull, po_ifnull1, po_ret, po_iret, po_zret, po_lret, po_aret, po_getf, po_puti, po_putz, po_putl, po_puta, po_iaload, po_iastore, po_alen, po_baload, po_bastore, po_laload, po_lastore, po_aaload, po_aastore, po_invB, po_stcB, po_stcB0, po_iniB, po_new, po_newa, po_obj, po_ladd, po_lsub, po_lmul, po_ldiv, po_lrem, po_land, po_lor, po_lshl, po_lushr, po_i2l, po_l2i, po_i2c, po_lcmp, po_lstore, po_tsw, po_gets, po_max, po_min, po_maxl, po_minl, po_acopy, po_ixor, po_lds, po_slen, po_sidx, po_invT, po_stcT, po_stcT0, sk_swt, kX5_letterIn_0, kX5_handIn_0, kX5_strengthIn_0, kX5_weakened_0, kX5_codeAt_0, kX5_put_0, kX7_isSkin_0, kX7_wide_0, kX7_rows_0, kX7_legible_0, kX7_coinsAtFirst_0, kX7_cells_0, kX7_spots_0, kX7_hasCell_0, kX7_hasRow_0, kX7_hasHand_0, kX7_ofHand_0, kX7_firstOf_0, kX7_rowOf_0, kX7_placeOf_0, kX10_isLetter_0, kX10_signAt_0, kX8_writingAt_0, kX8_lawThatHolds_0, kX8_lets_0, kX9_rewind_0, kX9_step_0, kX9_stepBack_0, kX9_cut_0, kX3_clear_0, kX3_add_0, kX6_judge_0, kX6_swap_0, kX1_push_0, kX1_pop_0, kX0_forget_0, kX11_refuse_0, kX11_draw_0, kX12_in_0, kX12_has_0, kX12_here_0, kX12_bad_0, kX12_isDigit_0, kX12_isSign_0, kX12_isInk_0, kX12_of_0, kX12_setOf_0, kX12_isCell_0, kX12_isHand_0, kX12_isRow_0, kX12_isWriting_0, kX12_isLegible_0, kX12_signOf_0, kX12_areYears_0, kX12_isRefused_0, kX12_draw_0, sk_nth, sk_set, sk_lok, sk_isL, sk_one, sk_pop, sk_wt, sk_cat, sk_ent, sk_pad, sk_tl_n, sk_tl_s, List.length_cons, List.length_nil, true_and, and_true, Bool.not_false, sk_F_at, Option.getD_some, sk_w_id, sk_I_at, sk_isI, false_implies, true_implies, forall_const, ne_eq, not_true_eq_false, not_false_eq_true, implies_true, true_or, or_true, va_up_self, va_up_ne, va_up_up, sk_I_up, p1, p4, e0, sk_Fu4]
      and_intros <;> intros <;> and_intros <;> intros <;> and_intros <;> intros <;> and_intros <;> intros <;> and_intros <;> intros <;> and_intros <;> intros <;> and_intros <;> intros <;> and_intros <;> intros <;> and_intros <;> intros <;> and_intros <;> intros <;> and_intros <;> intros <;> and_intros <;> intros <;> and_intros <;> try first | omega | rfl | assumption
    · simp at hw
  · rw [if_neg e0] at hw
    by_cases e1 : w % 16 = 1
    · rw [if_pos e1] at hw
      split at hw
      · next e2 =>
        cases hw
        obtain ⟨l1, l2⟩ := hle (w / 16) (by omega) (by omega)
        have hR := hQ _ _ (lws_top (t := ((le (w / 16) :: stk).length : Nat)) (lws_ka (f := sk_up kk stk.length (le (w / 16))) h)) ⟨sk_up_self _ _ _, lk_up hk (by omega)⟩
        simp only [List.length_cons] at hR
        push_cast at hR
        refine tX1_run_0 _ _ _ ?_
        simp (disch := omega) only [kX1_run_0, po_i, po_l, po_null, po_iload, po_lload, po_aload, po_istore, po_astore, po_iinc, po_iadd, po_isub, po_imul, po_ineg, po_iand, po_ior, po_ishl, po_ishr, po_iushr, po_idiv, po_irem, po_dup, po_dup2, po_pop, po_ifeq, po_ifne, po_iflt, po_ifge, po_ifgt, po_ifle, po_iceq, po_icne, po_iclt, po_icge, po_icgt, po_icle, po_ifnull, po_ifnull1, po_ret, po_iret, po_zret, po_lret, po_aret, po_getf, po_puti, po_putz, po_putl, po_puta, po_iaload, po_iastore, po_alen, po_baload, po_bastore, po_laload, po_lastore, po_aaload, po_aastore, po_invB, po_stcB, po_stcB0, po_iniB, po_new, po_newa, po_obj, po_ladd, po_lsub, po_lmul, po_ldiv, po_lrem, po_land, po_lor, po_lshl, po_lushr, po_i2l, po_l2i, po_i2c, po_lcmp, po_lstore, po_tsw, po_gets, po_max, po_min, po_maxl, po_minl, po_acopy, po_ixor, po_lds, po_slen, po_sidx, po_invT, po_stcT, po_stcT0, sk_swt, kX5_letterIn_0, kX5_handIn_0, kX5_strengthIn_0, kX5_weakened_0, kX5_codeAt_0, kX5_put_0, kX7_isSkin_0, kX7_wide_0, kX7_rows_0, kX7_legible_0, kX7_coinsAtFirst_0, kX7_cells_0, kX7_spots_0, kX7_hasCell_0, kX7_hasRow_0, kX7_hasHand_0, kX7_ofHand_0, kX7_firstOf_0, kX7_rowOf_0, kX7_placeOf_0, kX10_isLetter_0, kX10_signAt_0, kX8_writingAt_0, kX8_lawThatHolds_0, kX8_lets_0, kX9_rewind_0, kX9_step_0, kX9_stepBack_0, kX9_cut_0, kX3_clear_0, kX3_add_0, kX6_judge_0, kX6_swap_0, kX1_push_0, kX1_pop_0, kX0_forget_0, kX11_refuse_0, kX11_draw_0, kX12_in_0, kX12_has_0, kX12_here_0, kX12_bad_0, kX12_isDigit_0, kX12_isSign_0, kX12_isInk_0, kX12_of_0, kX12_setOf_0, kX12_isCell_0, kX12_isHand_0, kX12_isRow_0, kX12_isWriting_0, kX12_isLegible_0, kX12_signOf_0, kX12_areYears_0, kX12_isRefused_0, kX12_draw_0, sk_nth, sk_set, sk_lok, sk_isL, sk_one, sk_pop, sk_wt, sk_cat, sk_ent, sk_pad, sk_tl_n, sk_tl_s, List.length_cons, List.length_nil, true_and, and_true, Bool.not_false, sk_F_at, Option.getD_some, sk_w_id, sk_I_at, sk_isI, false_implies, true_implies, forall_const, ne_eq, not_true_eq_false, not_false_eq_true, implies_true, true_or, or_true, va_up_self, va_up_ne, va_up_up, sk_I_up, p1, p3, p4, e1, l1, sk_Fu4]
        and_intros <;> intros <;> and_intros <;> intros <;> and_intros <;> intros <;> and_intros <;> intros <;> and_intros <;> intros <;> and_intros <;> intros <;> and_intros <;> intros <;> and_intros <;> intros <;> and_intros <;> intros <;> and_intros <;> intros <;> and_intros <;> intros <;> and_intros <;> intros <;> and_intros <;> try first | omega | rfl | assumption
      · simp at hw
    · rw [if_neg e1] at hw
      by_cases e9 : w % 16 = 9
      · rw [if_pos e9] at hw
        split at hw
        · next x r =>
          split at hw
          · next e2 =>
            cases hw
            have hk1 := hk.1
            have hbx := hb x (by simp)
            unfold lb at hbx
            simp only [List.length_cons] at p1 hs h hQ
            push_cast at p1 h hQ
            have hR := hQ _ _ (lws_top (t := (r.length : Int) + 1) (lws_ka (f := sk_up kk r.length (1 - x)) (lws_top (t := (r.length : Int)) h))) ⟨sk_up_self _ _ _, lk_up hk.2 (by omega)⟩
            refine tX1_run_0 _ _ _ ?_
            simp (disch := omega) only [kX1_run_0, po_i, po_l, po_null, po_iload, po_lload, po_aload, po_istore, po_astore, po_iinc, po_iadd, po_isub, po_imul, po_ineg, po_iand, po_ior, po_ishl, po_ishr, po_iushr, po_idiv, po_irem, po_dup, po_dup2, po_pop, po_ifeq, po_ifne, po_iflt, po_ifge, po_ifgt, po_ifle, po_iceq, po_icne, po_iclt, po_icge, po_icgt, po_icle, po_ifnull, po_ifnull1, po_ret, po_iret, po_zret, po_lret, po_aret, po_getf, po_puti, po_putz, po_putl, po_puta, po_iaload, po_iastore, po_alen, po_baload, po_bastore, po_laload, po_lastore, po_aaload, po_aastore, po_invB, po_stcB, po_stcB0, po_iniB, po_new, po_newa, po_obj, po_ladd, po_lsub, po_lmul, po_ldiv, po_lrem, po_land, po_lor, po_lshl, po_lushr, po_i2l, po_l2i, po_i2c, po_lcmp, po_lstore, po_tsw, po_gets, po_max, po_min, po_maxl, po_minl, po_acopy, po_ixor, po_lds, po_slen, po_sidx, po_invT, po_stcT, po_stcT0, sk_swt, kX5_letterIn_0, kX5_handIn_0, kX5_strengthIn_0, kX5_weakened_0, kX5_codeAt_0, kX5_put_0, kX7_isSkin_0, kX7_wide_0, kX7_rows_0, kX7_legible_0, kX7_coinsAtFirst_0, kX7_cells_0, kX7_spots_0, kX7_hasCell_0, kX7_hasRow_0, kX7_hasHand_0, kX7_ofHand_0, kX7_firstOf_0, kX7_rowOf_0, kX7_placeOf_0, kX10_isLetter_0, kX10_signAt_0, kX8_writingAt_0, kX8_lawThatHolds_0, kX8_lets_0, kX9_rewind_0, kX9_step_0, kX9_stepBack_0, kX9_cut_0, kX3_clear_0, kX3_add_0, kX6_judge_0, kX6_swap_0, kX1_push_0, kX1_pop_0, kX0_forget_0, kX11_refuse_0, kX11_draw_0, kX12_in_0, kX12_has_0, kX12_here_0, kX12_bad_0, kX12_isDigit_0, kX12_isSign_0, kX12_isInk_0, kX12_of_0, kX12_setOf_0, kX12_isCell_0, kX12_isHand_0, kX12_isRow_0, kX12_isWriting_0, kX12_isLegible_0, kX12_signOf_0, kX12_areYears_0, kX12_isRefused_0, kX12_draw_0, sk_nth, sk_set, sk_lok, sk_isL, sk_one, sk_pop, sk_wt, sk_cat, sk_ent, sk_pad, sk_tl_n, sk_tl_s, List.length_cons, List.length_nil, true_and, and_true, Bool.not_false, sk_F_at, Option.getD_some, sk_w_id, sk_I_at, sk_isI, false_implies, true_implies, forall_const, ne_eq, not_true_eq_false, not_false_eq_true, implies_true, true_or, or_true, va_up_self, va_up_ne, va_up_up, sk_I_up, p1, p4, e9, hk1, sk_Fu4, show (r.length : Int) + 1 - 1 = r.length by omega]
            and_intros <;> intros <;> and_intros <;> intros <;> and_intros <;> intros <;> and_intros <;> intros <;> and_intros <;> intros <;> and_intros <;> intros <;> and_intros <;> intros <;> and_intros <;> intros <;> and_intros <;> intros <;> and_intros <;> intros <;> and_intros <;> intros <;> and_intros <;> intros <;> and_intros <;> try first | omega | rfl | assumption
          · simp at hw
        · simp at hw
      · rw [if_neg e9] at hw
        split at hw
        · next e2 =>
          have ew : w % 16 = w := by omega
          have ew2 : w / 16 = 0 := by omega
          split at hw
          · next x y r =>
            split at hw
            · next e3 =>
              cases hw
              have hk1 := hk.1
              have hk2 := hk.2.1
              simp only [List.length_cons] at hk1
              push_cast at hk1
              have hbx := hb x (by simp)
              have hby := hb y (by simp)
              simp only [List.length_cons] at p1 hs h hQ
              push_cast at p1 h hQ
              rw [ew, ew2]
              have hR := hQ _ _ (lws_top (t := (r.length : Int) + 1) (lws_ka (f := sk_up kk r.length (lv_j w y x)) (lws_top (t := (r.length : Int)) (lws_top (t := (r.length : Int) + 1) h)))) ⟨sk_up_self _ _ _, lk_up hk.2.2 (by omega)⟩
              have hlb := lb_j w y x
              simp only [va_up_up] at hR
              refine tX1_run_0 _ _ _ ?_
              simp (disch := omega) only [kX1_run_0, po_i, po_l, po_null, po_iload, po_lload, po_aload, po_istore, po_astore, po_iinc, po_iadd, po_isub, po_imul, po_ineg, po_iand, po_ior, po_ishl, po_ishr, po_iushr, po_idiv, po_irem, po_dup, po_dup2, po_pop, po_ifeq, po_ifne, po_iflt, po_ifge, po_ifgt, po_ifle, po_iceq, po_icne, po_iclt, po_icge, po_icgt, po_icle, po_ifnull, po_ifnull1, po_ret, po_iret, po_zret, po_lret, po_aret, po_getf, po_puti, po_putz, po_putl, po_puta, po_iaload, po_iastore, po_alen, po_baload, po_bastore, po_laload, po_lastore, po_aaload, po_aastore, po_invB, po_stcB, po_stcB0, po_iniB, po_new, po_newa, po_obj, po_ladd, po_lsub, po_lmul, po_ldiv, po_lrem, po_land, po_lor, po_lshl, po_lushr, po_i2l, po_l2i, po_i2c, po_lcmp, po_lstore, po_tsw, po_gets, po_max, po_min, po_maxl, po_minl, po_acopy, po_ixor, po_lds, po_slen, po_sidx, po_invT, po_stcT, po_stcT0, sk_swt, kX5_letterIn_0, kX5_handIn_0, kX5_strengthIn_0, kX5_weakened_0, kX5_codeAt_0, kX5_put_0, kX7_isSkin_0, kX7_wide_0, kX7_rows_0, kX7_legible_0, kX7_coinsAtFirst_0, kX7_cells_0, kX7_spots_0, kX7_hasCell_0, kX7_hasRow_0, kX7_hasHand_0, kX7_ofHand_0, kX7_firstOf_0, kX7_rowOf_0, kX7_placeOf_0, kX10_isLetter_0, kX10_signAt_0, kX8_writingAt_0, kX8_lawThatHolds_0, kX8_lets_0, kX9_rewind_0, kX9_step_0, kX9_stepBack_0, kX9_cut_0, kX3_clear_0, kX3_add_0, kX6_judge_0, kX6_swap_0, kX1_push_0, kX1_pop_0, kX0_forget_0, kX11_refuse_0, kX11_draw_0, kX12_in_0, kX12_has_0, kX12_here_0, kX12_bad_0, kX12_isDigit_0, kX12_isSign_0, kX12_isInk_0, kX12_of_0, kX12_setOf_0, kX12_isCell_0, kX12_isHand_0, kX12_isRow_0, kX12_isWriting_0, kX12_isLegible_0, kX12_signOf_0, kX12_areYears_0, kX12_isRefused_0, kX12_draw_0, sk_nth, sk_set, sk_lok, sk_isL, sk_one, sk_pop, sk_wt, sk_cat, sk_ent, sk_pad, sk_tl_n, sk_tl_s, List.length_cons, List.length_nil, true_and, and_true, Bool.not_false, sk_F_at, Option.getD_some, sk_w_id, sk_I_at, sk_isI, false_implies, true_implies, forall_const, ne_eq, not_true_eq_false, not_false_eq_true, implies_true, true_or, or_true, va_up_self, va_up_ne, va_up_up, sk_I_up, p1, p4, hk1, hk2, sk_Fu4, show (r.length : Int) + 1 + 1 - 1 = r.length + 1 by omega, show (r.length : Int) + 1 - 1 = r.length by omega]
              and_intros <;> intros <;> and_intros <;> intros <;> and_intros <;> intros <;> and_intros <;> intros <;> and_intros <;> intros <;> and_intros <;> intros <;> and_intros <;> intros <;> and_intros <;> intros <;> and_intros <;> intros <;> and_intros <;> intros <;> and_intros <;> intros <;> and_intros <;> intros <;> and_intros <;> try first | omega | rfl | assumption
              refine c_joined (by omega) (by omega) (by omega) hby hbx (fun _ => ⟨by unfold lv_b; omega, by unfold lv_b; omega⟩) ?_
              simp (disch := omega) only [po_i, po_l, po_null, po_iload, po_lload, po_aload, po_istore, po_astore, po_iinc, po_iadd, po_isub, po_imul, po_ineg, po_iand, po_ior, po_ishl, po_ishr, po_iushr, po_idiv, po_irem, po_dup, po_dup2, po_pop, po_ifeq, po_ifne, po_iflt, po_ifge, po_ifgt, po_ifle, po_iceq, po_icne, po_iclt, po_icge, po_icgt, po_icle, po_ifnull, po_ifnull1, po_ret, po_iret, po_zret, po_lret, po_aret, po_getf, po_puti, po_putz, po_putl, po_puta, po_iaload, po_iastore, po_alen, po_baload, po_bastore, po_laload, po_lastore, po_aaload, po_aastore, po_invB, po_stcB, po_stcB0, po_iniB, po_new, po_newa, po_obj, po_ladd, po_lsub, po_lmul, po_ldiv, po_lrem, po_land, po_lor, po_lshl, po_lushr, po_i2l, po_l2i, po_i2c, po_lcmp, po_lstore, po_tsw, po_gets, po_max, po_min, po_maxl, po_minl, po_acopy, po_ixor, po_lds, po_slen, po_sidx, po_invT, po_stcT, po_stcT0, sk_swt, kX5_letterIn_0, kX5_handIn_0, kX5_strengthIn_0, kX5_weakened_0, kX5_codeAt_0, kX5_put_0, kX7_isSkin_0, kX7_wide_0, kX7_rows_0, kX7_legible_0, kX7_coinsAtFirst_0, kX7_cells_0, kX7_spots_0, kX7_hasCell_0, kX7_hasRow_0, kX7_hasHand_0, kX7_ofHand_0, kX7_firstOf_0, kX7_rowOf_0, kX7_placeOf_0, kX10_isLetter_0, kX10_signAt_0, kX8_writingAt_0, kX8_lawThatHolds_0, kX8_lets_0, kX9_rewind_0, kX9_step_0, kX9_stepBack_0, kX9_cut_0, kX3_clear_0, kX3_add_0, kX6_judge_0, kX6_swap_0, kX1_push_0, kX1_pop_0, kX0_forget_0, kX11_refuse_0, kX11_draw_0, kX12_in_0, kX12_has_0, kX12_here_0, kX12_bad_0, kX12_isDigit_0, kX12_isSign_0, kX12_isInk_0, kX12_of_0, kX12_setOf_0, kX12_isCell_0, kX12_isHand_0, kX12_isRow_0, kX12_isWriting_0, kX12_isLegible_0, kX12_signOf_0, kX12_areYears_0, kX12_isRefused_0, kX12_draw_0, sk_nth, sk_set, sk_lok, sk_isL, sk_one, sk_pop, sk_wt, sk_cat, sk_ent, sk_pad, sk_tl_n, sk_tl_s, List.length_cons, List.length_nil, true_and, and_true, Bool.not_false, sk_F_at, Option.getD_some, sk_w_id, sk_I_at, sk_isI, false_implies, true_implies, forall_const, ne_eq, not_true_eq_false, not_false_eq_true, implies_true, true_or, or_true, va_up_self, va_up_ne, va_up_up, sk_I_up]
              and_intros <;> intros <;> and_intros <;> intros <;> and_intros <;> intros <;> and_intros <;> intros <;> and_intros <;> intros <;> and_intros <;> intros <;> and_intros <;> intros <;> and_intros <;> intros <;> and_intros <;> intros <;> and_intros <;> intros <;> and_intros <;> intros <;> and_intros <;> intros <;> and_intros <;> try first | omega | rfl | assumption
              refine c_held (lv_raw_in hby hbx).1 (lv_raw_in hby hbx).2 (by omega) ?_
              rw [lv_raw_cl hby (by omega)]
              simp (disch := omega) only [po_i, po_l, po_null, po_iload, po_lload, po_aload, po_istore, po_astore, po_iinc, po_iadd, po_isub, po_imul, po_ineg, po_iand, po_ior, po_ishl, po_ishr, po_iushr, po_idiv, po_irem, po_dup, po_dup2, po_pop, po_ifeq, po_ifne, po_iflt, po_ifge, po_ifgt, po_ifle, po_iceq, po_icne, po_iclt, po_icge, po_icgt, po_icle, po_ifnull, po_ifnull1, po_ret, po_iret, po_zret, po_lret, po_aret, po_getf, po_puti, po_putz, po_putl, po_puta, po_iaload, po_iastore, po_alen, po_baload, po_bastore, po_laload, po_lastore, po_aaload, po_aastore, po_invB, po_stcB, po_stcB0, po_iniB, po_new, po_newa, po_obj, po_ladd, po_lsub, po_lmul, po_ldiv, po_lrem, po_land, po_lor, po_lshl, po_lushr, po_i2l, po_l2i, po_i2c, po_lcmp, po_lstore, po_tsw, po_gets, po_max, po_min, po_maxl, po_minl, po_acopy, po_ixor, po_lds, po_slen, po_sidx, po_invT, po_stcT, po_stcT0, sk_swt, kX5_letterIn_0, kX5_handIn_0, kX5_strengthIn_0, kX5_weakened_0, kX5_codeAt_0, kX5_put_0, kX7_isSkin_0, kX7_wide_0, kX7_rows_0, kX7_legible_0, kX7_coinsAtFirst_0, kX7_cells_0, kX7_spots_0, kX7_hasCell_0, kX7_hasRow_0, kX7_hasHand_0, kX7_ofHand_0, kX7_firstOf_0, kX7_rowOf_0, kX7_placeOf_0, kX10_isLetter_0, kX10_signAt_0, kX8_writingAt_0, kX8_lawThatHolds_0, kX8_lets_0, kX9_rewind_0, kX9_step_0, kX9_stepBack_0, kX9_cut_0, kX3_clear_0, kX3_add_0, kX6_judge_0, kX6_swap_0, kX1_push_0, kX1_pop_0, kX0_forget_0, kX11_refuse_0, kX11_draw_0, kX12_in_0, kX12_has_0, kX12_here_0, kX12_bad_0, kX12_isDigit_0, kX12_isSign_0, kX12_isInk_0, kX12_of_0, kX12_setOf_0, kX12_isCell_0, kX12_isHand_0, kX12_isRow_0, kX12_isWriting_0, kX12_isLegible_0, kX12_signOf_0, kX12_areYears_0, kX12_isRefused_0, kX12_draw_0, sk_nth, sk_set, sk_lok, sk_isL, sk_one, sk_pop, sk_wt, sk_cat, sk_ent, sk_pad, sk_tl_n, sk_tl_s, List.length_cons, List.length_nil, true_and, and_true, Bool.not_false, sk_F_at, Option.getD_some, sk_w_id, sk_I_at, sk_isI, false_implies, true_implies, forall_const, ne_eq, not_true_eq_false, not_false_eq_true, implies_true, true_or, or_true, va_up_self, va_up_ne, va_up_up, sk_I_up, p4, sk_Fu4]
              and_intros <;> intros <;> and_intros <;> intros <;> and_intros <;> intros <;> and_intros <;> intros <;> and_intros <;> intros <;> and_intros <;> intros <;> and_intros <;> intros <;> and_intros <;> intros <;> and_intros <;> intros <;> and_intros <;> intros <;> and_intros <;> intros <;> and_intros <;> intros <;> and_intros <;> try first | omega | rfl | assumption
            · simp at hw
          · simp at hw
        · simp at hw
end LAWRUN
