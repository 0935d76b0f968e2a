/-! ===== from the law's entry to its loop ===== -/
theorem mz_new (B : Nat) : sk_F [.inl 0, .inr (.inr none), .inl 0, .inl 0, .inl 0, .inl 0, .inr (.inr none), .inr (.inr none), .inr (.inr none), .inr (.inr none), .inr (.inr none), .inr (.inr none), .inr (.inr none), .inl 0, .inl 0, .inr (.inr none), .inr (.inr none), .inr (.inr none), .inr (.inr none), .inl 0, .inr (.inr none), .inr (.inr none), .inl 0, .inl 0, .inr (.inr none), .inr (.inr none), .inr (.inr none), .inl 0, .inr (.inr none), .inr (.inr none), .inl 0, .inl 0, .inr (.inr none), .inl 0, .inr (.inl 0), .inl 0, .inl 0, .inr (.inr none), .inr (.inr none), .inr (.inr none), .inr (.inr none), .inr (.inr none), .inr (.inr none), .inr (.inr none), .inr (.inr none), .inl 0, .inr (.inr none), .inr (.inr none), .inl 0] = mz B 0 (fun _ => 0) := by
  funext j
  exact match j with
  | 0 => rfl
  | 1 => rfl
  | 2 => rfl
  | 3 => rfl
  | 4 => rfl
  | 5 => rfl
  | 6 => rfl
  | 7 => rfl
  | 8 => rfl
  | 9 => rfl
  | 10 => rfl
  | 11 => rfl
  | 12 => rfl
  | 13 => rfl
  | 14 => rfl
  | 15 => rfl
  | 16 => rfl
  | 17 => rfl
  | 18 => rfl
  | 19 => rfl
  | 20 => rfl
  | 21 => rfl
  | 22 => rfl
  | 23 => rfl
  | 24 => rfl
  | 25 => rfl
  | 26 => rfl
  | 27 => rfl
  | 28 => rfl
  | 29 => rfl
  | 30 => rfl
  | 31 => rfl
  | 32 => rfl
  | 33 => rfl
  | 34 => rfl
  | 35 => rfl
  | 36 => rfl
  | 37 => rfl
  | 38 => rfl
  | 39 => rfl
  | 40 => rfl
  | 41 => rfl
  | 42 => rfl
  | 43 => rfl
  | 44 => rfl
  | 45 => rfl
  | 46 => rfl
  | 47 => rfl
  | 48 => rfl
  | n + 49 => rfl
section ENTRY
variable {g : sk_G} {d ck sk : Nat} {Q : sk_P} {bs N : Nat} {scr : Int → Int} {A : Nat} {m : Nat → sk_C}
theorem l_0 (hd : 127 ≤ d) (hck : 46173 ≤ ck) (hsk : 4457027 ≤ sk) (hs : m bs = (30, N, sk_I scr)) (hb : bs < A) (h1 : st_at g (A, m)) (h2 : sbd_at g (A, m)) (h3 : ∀ k, k < 6 → g.2.2.2.2 k < A) (hk : ∀ ck' sk' M', 46080 ≤ ck' → 4392960 ≤ sk' → J g A bs N scr 0 M' → sk_B (g, d, ck', sk', xL_law, Q) 23 (lL A bs 0) [] M') :
    sk_B (g, d, ck, sk, xL_law, Q) 0 [some (.inr (.inr (some bs))), none, none, none, none, none, none] [] (A, m) := by
  refine tL_law_0 _ _ _ ?_
  simp (disch := omega) only [kL_law_0, po_i, po_l, po_null, po_iload, po_lload, po_aload, po_istore, po_astore, po_iinc, po_iadd, po_isub, po_imul, po_ineg, po_iand, po_ior, po_ishl, po_ishr, po_iushr, po_idiv, po_irem, po_dup, po_dup2, po_pop, po_ifeq, po_ifne, po_iflt, po_ifge, po_ifgt, po_ifle, po_iceq, po_icne, po_iclt, po_icge, po_icgt, po_icle, po_ifnull, po_ifnull1, po_ret, po_iret, po_zret, po_lret, po_aret, po_getf, po_puti, po_putz, po_putl, po_puta, po_iaload, po_iastore, po_alen, po_baload, po_bastore, po_laload, po_lastore, po_aaload, po_aastore, po_invB, po_stcB, po_stcB0, po_iniB, po_new, po_newa, po_obj, po_ladd, po_lsub, po_lmul, po_ldiv, po_lrem, po_land, po_lor, po_lshl, po_lushr, po_i2l, po_l2i, po_i2c, po_lcmp, po_lstore, po_tsw, po_gets, po_max, po_min, po_maxl, po_minl, po_acopy, po_ixor, po_lds, po_slen, po_sidx, po_invT, po_stcT, po_stcT0, sk_swt, kX5_letterIn_0, kX5_handIn_0, kX5_strengthIn_0, kX5_weakened_0, kX5_codeAt_0, kX5_put_0, kX7_isSkin_0, kX7_wide_0, kX7_rows_0, kX7_legible_0, kX7_coinsAtFirst_0, kX7_cells_0, kX7_spots_0, kX7_hasCell_0, kX7_hasRow_0, kX7_hasHand_0, kX7_ofHand_0, kX7_firstOf_0, kX7_rowOf_0, kX7_placeOf_0, kX10_isLetter_0, kX10_signAt_0, kX8_writingAt_0, kX8_lawThatHolds_0, kX8_lets_0, kX9_rewind_0, kX9_step_0, kX9_stepBack_0, kX9_cut_0, kX3_clear_0, kX3_add_0, kX6_judge_0, kX6_swap_0, kX1_push_0, kX1_pop_0, kX0_forget_0, kX11_refuse_0, kX11_draw_0, kX12_in_0, kX12_has_0, kX12_here_0, kX12_bad_0, kX12_isDigit_0, kX12_isSign_0, kX12_isInk_0, kX12_of_0, kX12_setOf_0, kX12_isCell_0, kX12_isHand_0, kX12_isRow_0, kX12_isWriting_0, kX12_isLegible_0, kX12_signOf_0, kX12_areYears_0, kX12_isRefused_0, kX12_draw_0, sk_nth, sk_set, sk_lok, sk_isL, sk_one, sk_pop, sk_wt, sk_cat, sk_ent, sk_pad, sk_tl_n, sk_tl_s, List.length_cons, List.length_nil, true_and, and_true, Bool.not_false, sk_F_at, Option.getD_some, sk_w_id, sk_I_at, sk_isI, false_implies, true_implies, forall_const, ne_eq, not_true_eq_false, not_false_eq_true, implies_true, true_or, or_true, va_up_self, va_up_ne, va_up_up, sk_I_up, mz_new (A + 53)]
  and_intros <;> try first | omega | rfl | assumption
  refine c_xInit (A := A) (by omega) (by omega) (by omega) (va_up_self _ _ _) rfl (fun M1 a1 a2 a3 a4 => ?_)
  obtain ⟨n1, m1⟩ := M1
  have a1' : n1 = A + 53 := a1
  subst a1'
  simp only [] at a2 a3 a4
  simp (disch := omega) only [po_i, po_l, po_null, po_iload, po_lload, po_aload, po_istore, po_astore, po_iinc, po_iadd, po_isub, po_imul, po_ineg, po_iand, po_ior, po_ishl, po_ishr, po_iushr, po_idiv, po_irem, po_dup, po_dup2, po_pop, po_ifeq, po_ifne, po_iflt, po_ifge, po_ifgt, po_ifle, po_iceq, po_icne, po_iclt, po_icge, po_icgt, po_icle, po_ifnull, po_ifnull1, po_ret, po_iret, po_zret, po_lret, po_aret, po_getf, po_puti, po_putz, po_putl, po_puta, po_iaload, po_iastore, po_alen, po_baload, po_bastore, po_laload, po_lastore, po_aaload, po_aastore, po_invB, po_stcB, po_stcB0, po_iniB, po_new, po_newa, po_obj, po_ladd, po_lsub, po_lmul, po_ldiv, po_lrem, po_land, po_lor, po_lshl, po_lushr, po_i2l, po_l2i, po_i2c, po_lcmp, po_lstore, po_tsw, po_gets, po_max, po_min, po_maxl, po_minl, po_acopy, po_ixor, po_lds, po_slen, po_sidx, po_invT, po_stcT, po_stcT0, sk_swt, kX5_letterIn_0, kX5_handIn_0, kX5_strengthIn_0, kX5_weakened_0, kX5_codeAt_0, kX5_put_0, kX7_isSkin_0, kX7_wide_0, kX7_rows_0, kX7_legible_0, kX7_coinsAtFirst_0, kX7_cells_0, kX7_spots_0, kX7_hasCell_0, kX7_hasRow_0, kX7_hasHand_0, kX7_ofHand_0, kX7_firstOf_0, kX7_rowOf_0, kX7_placeOf_0, kX10_isLetter_0, kX10_signAt_0, kX8_writingAt_0, kX8_lawThatHolds_0, kX8_lets_0, kX9_rewind_0, kX9_step_0, kX9_stepBack_0, kX9_cut_0, kX3_clear_0, kX3_add_0, kX6_judge_0, kX6_swap_0, kX1_push_0, kX1_pop_0, kX0_forget_0, kX11_refuse_0, kX11_draw_0, kX12_in_0, kX12_has_0, kX12_here_0, kX12_bad_0, kX12_isDigit_0, kX12_isSign_0, kX12_isInk_0, kX12_of_0, kX12_setOf_0, kX12_isCell_0, kX12_isHand_0, kX12_isRow_0, kX12_isWriting_0, kX12_isLegible_0, kX12_signOf_0, kX12_areYears_0, kX12_isRefused_0, kX12_draw_0, sk_nth, sk_set, sk_lok, sk_isL, sk_one, sk_pop, sk_wt, sk_cat, sk_ent, sk_pad, sk_tl_n, sk_tl_s, List.length_cons, List.length_nil, true_and, and_true, Bool.not_false, sk_F_at, Option.getD_some, sk_w_id, sk_I_at, sk_isI, false_implies, true_implies, forall_const, ne_eq, not_true_eq_false, not_false_eq_true, implies_true, true_or, or_true, va_up_self, va_up_ne, va_up_up, sk_I_up, mz_new (A + 53)]
  and_intros <;> try first | omega | rfl | assumption
  refine m_init (B := A + 53) (by omega) (by omega) (by omega) (by rw [← mz_new]; exact va_up_self _ _ _) rfl (fun M2 b1 b2 b3 => ?_)
  obtain ⟨n2, m2⟩ := M2
  have b1' : n2 = A + 84 := b1
  subst b1'
  simp only [] at b2
  simp (disch := omega) only [po_i, po_l, po_null, po_iload, po_lload, po_aload, po_istore, po_astore, po_iinc, po_iadd, po_isub, po_imul, po_ineg, po_iand, po_ior, po_ishl, po_ishr, po_iushr, po_idiv, po_irem, po_dup, po_dup2, po_pop, po_ifeq, po_ifne, po_iflt, po_ifge, po_ifgt, po_ifle, po_iceq, po_icne, po_iclt, po_icge, po_icgt, po_icle, po_ifnull, po_ifnull1, po_ret, po_iret, po_zret, po_lret, po_aret, po_getf, po_puti, po_putz, po_putl, po_puta, po_iaload, po_iastore, po_alen, po_baload, po_bastore, po_laload, po_lastore, po_aaload, po_aastore, po_invB, po_stcB, po_stcB0, po_iniB, po_new, po_newa, po_obj, po_ladd, po_lsub, po_lmul, po_ldiv, po_lrem, po_land, po_lor, po_lshl, po_lushr, po_i2l, po_l2i, po_i2c, po_lcmp, po_lstore, po_tsw, po_gets, po_max, po_min, po_maxl, po_minl, po_acopy, po_ixor, po_lds, po_slen, po_sidx, po_invT, po_stcT, po_stcT0, sk_swt, kX5_letterIn_0, kX5_handIn_0, kX5_strengthIn_0, kX5_weakened_0, kX5_codeAt_0, kX5_put_0, kX7_isSkin_0, kX7_wide_0, kX7_rows_0, kX7_legible_0, kX7_coinsAtFirst_0, kX7_cells_0, kX7_spots_0, kX7_hasCell_0, kX7_hasRow_0, kX7_hasHand_0, kX7_ofHand_0, kX7_firstOf_0, kX7_rowOf_0, kX7_placeOf_0, kX10_isLetter_0, kX10_signAt_0, kX8_writingAt_0, kX8_lawThatHolds_0, kX8_lets_0, kX9_rewind_0, kX9_step_0, kX9_stepBack_0, kX9_cut_0, kX3_clear_0, kX3_add_0, kX6_judge_0, kX6_swap_0, kX1_push_0, kX1_pop_0, kX0_forget_0, kX11_refuse_0, kX11_draw_0, kX12_in_0, kX12_has_0, kX12_here_0, kX12_bad_0, kX12_isDigit_0, kX12_isSign_0, kX12_isInk_0, kX12_of_0, kX12_setOf_0, kX12_isCell_0, kX12_isHand_0, kX12_isRow_0, kX12_isWriting_0, kX12_isLegible_0, kX12_signOf_0, kX12_areYears_0, kX12_isRefused_0, kX12_draw_0, sk_nth, sk_set, sk_lok, sk_isL, sk_one, sk_pop, sk_wt, sk_cat, sk_ent, sk_pad, sk_tl_n, sk_tl_s, List.length_cons, List.length_nil, true_and, and_true, Bool.not_false, sk_F_at, Option.getD_some, sk_w_id, sk_I_at, sk_isI, false_implies, true_implies, forall_const, ne_eq, not_true_eq_false, not_false_eq_true, implies_true, true_or, or_true, va_up_self, va_up_ne, va_up_up, sk_I_up, mz_new (A + 53)]
  have e1 : ∀ q, q < A → m1 q = m q := fun q hq => (a2 q hq).trans (va_up_ne _ _ (by omega))
  have e2 : ∀ q, q < A + 53 → m2 q = m1 q := fun q hq => (b2 q hq).trans (va_up_ne _ _ (by omega))
  have E : ∀ (X : sk_C) (q : Nat), q < A + 84 → va_up m2 (A + 84) X q = m2 q := fun X q hq => va_up_ne _ _ (by omega)
  have F : ∀ (X : sk_C) (q : Nat), q < A → va_up m2 (A + 84) X q = m q := fun X q hq => ((E X q (by omega)).trans (e2 q (by omega))).trans (e1 q hq)
  refine ⟨rfl, by omega, by omega, hk _ _ _ (by omega) (by omega) (J_start ?_ ?_ ?_ (va_up_self _ _ _) (Nat.le_refl _) ?_ ?_ h3 ?_ hb)⟩
  · exact ((E _ A (by omega)).trans (e2 A (by omega))).trans a3
  · exact fun k k0 k1 => ((E _ (A + k) (by omega)).trans (e2 (A + k) (by omega))).trans (a4 k k0 k1)
  · exact ⟨(E _ _ (by omega)).trans b3.1, fun k k0 k1 => (E _ _ (by omega)).trans (b3.2.1 k k0 k1), rfl, fun _ _ => rfl⟩
  · exact ⟨(F _ _ (h3 2 (by decide))).trans h1.1, (F _ _ (h3 3 (by decide))).trans h1.2.1, (F _ _ (h3 4 (by decide))).trans h1.2.2.1, (F _ _ (h3 5 (by decide))).trans h1.2.2.2⟩
  · obtain ⟨c0, c1, k0, k1, k2⟩ := h2
    exact ⟨c0, c1, (F _ _ (h3 0 (by decide))).trans k0, (F _ _ (h3 1 (by decide))).trans k1, k2⟩
  · exact (F _ _ hb).trans hs
end ENTRY
