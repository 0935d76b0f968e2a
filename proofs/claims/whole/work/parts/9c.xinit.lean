/-! ===== constructors of the shelf, the history, the class ===== -/
/-- what a new object holds, by place -/
def x0 (A : Nat) : Nat → sk_C
  | 1 => (9, 0, sk_F [.inr (.inr (some (A + 2))), .inl 0, .inl 0])
  | 2 => (20, 240, sk_I (fun _ => 0))
  | 3 => (7, 0, sk_F [.inr (.inr (some (A + 3 + 1))), .inr (.inr (some (A + 3 + 2))), .inl 0, .inl 0])
  | 4 => (20, 4, sk_I (fun _ => 0))
  | 5 => (20, 8, sk_I (fun _ => 0))
  | 6 => (7, 0, sk_F [.inr (.inr (some (A + 6 + 1))), .inr (.inr (some (A + 6 + 2))), .inl 0, .inl 0])
  | 7 => (20, 4, sk_I (fun _ => 0))
  | 8 => (20, 8, sk_I (fun _ => 0))
  | 9 => (8, 0, sk_F [.inr (.inr (some (A + 10))), .inr (.inr (some (A + 11))), .inr (.inr (some (A + 12))), .inr (.inr (some (A + 16))), .inl 0, .inl 0, .inl (-1)])
  | 10 => (24, 4, sk_A (fun _ => none))
  | 11 => (25, 6, sk_A (fun _ => none))
  | 12 => (1, 0, sk_F [.inr (.inr (some (A + 12 + 1))), .inl 0, .inr (.inr (some (A + 12 + 2))), .inr (.inr (some (A + 12 + 3))), .inl 0])
  | 13 => (20, 240, sk_I (fun _ => 0))
  | 14 => (20, 6, sk_I (fun _ => 0))
  | 15 => (20, 32, sk_I (fun _ => 0))
  | 16 => (10, 0, sk_F [.inr (.inr (some (A + 16 + 1))), .inr (.inr (some (A + 16 + 2))), .inr (.inr (some (A + 16 + 3))), .inr (.inr (some (A + 16 + 4))), .inr (.inr (some (A + 16 + 5))), .inl 0, .inl 0, .inl 0, .inl 0])
  | 17 => (20, 16, sk_I (fun _ => 0))
  | 18 => (20, 16, sk_I (fun _ => 0))
  | 19 => (20, 16, sk_I (fun _ => 0))
  | 20 => (20, 4, sk_I (fun _ => 0))
  | 21 => (20, 4, sk_I (fun _ => 0))
  | 22 => (5, 0, sk_F [.inr (.inr (some (A + 23))), .inr (.inr (some (A + 24))), .inl 0, .inl 0, .inl 0, .inl 0])
  | 23 => (20, 240, sk_I (fun _ => 0))
  | 24 => (20, 40, sk_I (fun _ => 0))
  | 25 => (5, 0, sk_F [.inr (.inr (some (A + 26))), .inr (.inr (some (A + 27))), .inl 0, .inl 0, .inl 0, .inl 0])
  | 26 => (20, 240, sk_I (fun _ => 0))
  | 27 => (20, 40, sk_I (fun _ => 0))
  | 28 => (2, 0, sk_F [.inr (.inr (some (A + 29)))])
  | 29 => (20, 300, sk_I (fun _ => 0))
  | 30 => (0, 0, sk_F [.inr (.inr (some (A + 31))), .inl 0, .inl 0, .inr (.inr (some (A + 32))), .inr (.inr (some (A + 35))), .inl 0])
  | 31 => (23, 40, sk_A (fun _ => none))
  | 32 => (5, 0, sk_F [.inr (.inr (some (A + 33))), .inr (.inr (some (A + 34))), .inl 0, .inl 0, .inl 0, .inl 0])
  | 33 => (20, 240, sk_I (fun _ => 0))
  | 34 => (20, 40, sk_I (fun _ => 0))
  | 35 => (2, 0, sk_F [.inr (.inr (some (A + 36)))])
  | 36 => (20, 300, sk_I (fun _ => 0))
  | 37 => (4, 0, sk_F [.inr (.inr (some (A + 37 + 1))), .inr (.inr (some (A + 37 + 2))), .inr (.inr (some (A + 37 + 3))), .inl 0])
  | 38 => (20, 10, sk_I (fun _ => 0))
  | 39 => (20, 10, sk_I (fun _ => 0))
  | 40 => (21, 10, sk_I (fun _ => 0))
  | 41 => (3, 0, sk_F [.inr (.inr (some (A + 41 + 1))), .inr (.inr (some (A + 41 + 2))), .inr (.inr (some (A + 41 + 3))), .inr (.inr (some (A + 41 + 4))), .inl 0])
  | 42 => (20, 16, sk_I (fun _ => 0))
  | 43 => (20, 16, sk_I (fun _ => 0))
  | 44 => (20, 16, sk_I (fun _ => 0))
  | 45 => (20, 17, sk_I (fun _ => 0))
  | 46 => (6, 0, sk_F [.inr (.inr (some (A + 46 + 1))), .inr (.inr (some (A + 46 + 2))), .inl 0, .inl 0])
  | 47 => (20, 36, sk_I (fun _ => 0))
  | 48 => (20, 6, sk_I (fun _ => 0))
  | 49 => (20, 5, sk_I (fun _ => 0))
  | 50 => (20, 1080, sk_I (fun _ => 0))
  | 51 => (20, 4, sk_I (fun _ => 0))
  | 52 => (20, 12, sk_I (fun _ => 0))
  | _ => (20, 0, sk_I (fun _ => 0))
section XINIT
variable {g : sk_G} {d ck sk : Nat} {M : sk_M} {Q : sk_P} {A : Nat}
set_option maxRecDepth 20000 in
theorem c_shInit (hd : 5 ≤ d) (hc : 12 ≤ ck) (hc2 : 358 ≤ sk) (hp : M.2 (A + 9) = (8, 0, sk_F [.inr (.inr none), .inr (.inr none), .inr (.inr none), .inr (.inr none), .inl 0, .inl 0, .inl 0])) (ha : A + 9 + 1 = M.1) (hQ : ∀ M' : sk_M, M'.1 = A + 22 → (∀ q, q < A + 9 → M'.2 q = M.2 q) → M'.2 (A + 9) = x0 A 9 → (∀ k, 10 ≤ k → k < 22 → M'.2 (A + k) = x0 A k) → Q none M') : sk_call g d ck sk xX8_init [.inr (.inr (some (A + 9)))] M Q := by
  obtain ⟨n, m0⟩ := M
  have ha' : n = A + 9 + 1 := ha.symm
  subst ha'
  replace hp : m0 (A + 9) = (8, 0, sk_F [.inr (.inr none), .inr (.inr none), .inr (.inr none), .inr (.inr none), .inl 0, .inl 0, .inl 0]) := hp
  have hq0 : ∀ q, q < A + 9 → m0 q = m0 q := fun _ _ => rfl
  refine tX8_init_0 _ _ _ ?_
  simp (disch := omega) only [kX8_init_0, po_i, po_l, po_null, po_iload, po_lload, po_aload, po_istore, po_astore, po_iinc, po_iadd, po_isub, po_imul, po_ineg, po_iand, po_ior, po_ishl, po_ishr, po_iushr, po_idiv, po_irem, po_dup, po_dup2, po_pop, po_ifeq, po_ifne, po_iflt, po_ifge, po_ifgt, po_ifle, po_iceq, po_icne, po_iclt, po_icge, po_icgt, po_icle, po_ifnull, po_ifnull1, po_ret, po_iret, po_zret, po_lret, po_aret, po_getf, po_puti, po_putz, po_putl, po_puta, po_iaload, po_iastore, po_alen, po_baload, po_bastore, po_laload, po_lastore, po_aaload, po_aastore, po_invB, po_stcB, po_stcB0, po_iniB, po_new, po_newa, po_obj, po_ladd, po_lsub, po_lmul, po_ldiv, po_lrem, po_land, po_lor, po_lshl, po_lushr, po_i2l, po_l2i, po_i2c, po_lcmp, po_lstore, po_tsw, po_gets, po_max, po_min, po_maxl, po_minl, po_acopy, po_ixor, po_lds, po_slen, po_sidx, po_invT, po_stcT, po_stcT0, sk_swt, kX5_letterIn_0, kX5_handIn_0, kX5_strengthIn_0, kX5_weakened_0, kX5_codeAt_0, kX5_put_0, kX7_isSkin_0, kX7_wide_0, kX7_rows_0, kX7_legible_0, kX7_coinsAtFirst_0, kX7_cells_0, kX7_spots_0, kX7_hasCell_0, kX7_hasRow_0, kX7_hasHand_0, kX7_ofHand_0, kX7_firstOf_0, kX7_rowOf_0, kX7_placeOf_0, kX10_isLetter_0, kX10_signAt_0, kX8_writingAt_0, kX8_lawThatHolds_0, kX8_lets_0, kX9_rewind_0, kX9_step_0, kX9_stepBack_0, kX9_cut_0, kX3_clear_0, kX3_add_0, kX6_judge_0, kX6_swap_0, kX1_push_0, kX1_pop_0, kX0_forget_0, kX11_refuse_0, kX11_draw_0, kX12_in_0, kX12_has_0, kX12_here_0, kX12_bad_0, kX12_isDigit_0, kX12_isSign_0, kX12_isInk_0, kX12_of_0, kX12_setOf_0, kX12_isCell_0, kX12_isHand_0, kX12_isRow_0, kX12_isWriting_0, kX12_isLegible_0, kX12_signOf_0, kX12_areYears_0, kX12_isRefused_0, kX12_draw_0, sk_nth, sk_set, sk_lok, sk_isL, sk_one, sk_pop, sk_wt, sk_cat, sk_ent, sk_pad, sk_tl_n, sk_tl_s, List.length_cons, List.length_nil, true_and, and_true, Bool.not_false, sk_F_at, Option.getD_some, sk_w_id, sk_I_at, sk_isI, false_implies, true_implies, forall_const, ne_eq, not_true_eq_false, not_false_eq_true, implies_true, true_or, or_true, va_up_self, va_up_ne, va_up_up, sk_I_up, hp, sk_Fu0, sk_Fu1, sk_Fu2, sk_Fu3, sk_Fu4, sk_Fu5, sk_Fu6, Nat.add_assoc, Nat.reduceAdd]
  and_intros <;> intros <;> and_intros <;> intros <;> and_intros <;> intros <;> and_intros <;> intros <;> and_intros <;> intros <;> and_intros <;> intros <;> and_intros <;> intros <;> and_intros <;> intros <;> and_intros <;> intros <;> and_intros <;> intros <;> and_intros <;> intros <;> and_intros <;> intros <;> and_intros <;> try first | omega | rfl | assumption
  refine c_lawInit (by omega) (by omega) (by omega) (va_up_self _ _ _) rfl (fun M2 g1 g2 g3 => ?_)
  obtain ⟨n2, m12⟩ := M2
  have g1' : n2 = A + 16 := by have := g1; simp only [] at this; omega
  subst g1'
  clear g1
  have oA12 : m12 (A + 9) = (8, 0, sk_F [.inr (.inr (some (A + 10))), .inr (.inr (some (A + 11))), .inr (.inr none), .inr (.inr none), .inl 0, .inl 0, .inl 0]) := by
    refine (g2 _ (by omega) (Or.inl (by simp only []; omega))).trans ?_
    simp (disch := omega) only [va_up_ne, va_up_self, hp]
  have hq12 : ∀ q, q < A + 9 → m12 q = m0 q := by
    intro q hq
    refine (g2 _ (by omega) (Or.inl (by simp only []; omega))).trans ?_
    simp (disch := omega) only [va_up_ne, va_up_self]
  have H12 : ∀ k, 10 ≤ k → k < 16 → m12 (A + k) = x0 A k := by
    intro k k0 k1
    · have hk : k = 10 ∨ k = 11 ∨ k = 12 ∨ k = 13 ∨ k = 14 ∨ k = 15 := by omega
      rcases hk with rfl | rfl | rfl | rfl | rfl | rfl
      · refine (g2 _ (by omega) (Or.inl (by simp only []; omega))).trans ?_
        simp (disch := omega) only [va_up_ne, va_up_self] <;> rfl
      · refine (g2 _ (by omega) (Or.inl (by simp only []; omega))).trans ?_
        simp (disch := omega) only [va_up_ne, va_up_self] <;> rfl
      · exact g3.1
      · exact g3.2.1
      · exact g3.2.2.1
      · exact g3.2.2.2
  clear g2
  simp (disch := omega) only [po_i, po_l, po_null, po_iload, po_lload, po_aload, po_istore, po_astore, po_iinc, po_iadd, po_isub, po_imul, po_ineg, po_iand, po_ior, po_ishl, po_ishr, po_iushr, po_idiv, po_irem, po_dup, po_dup2, po_pop, po_ifeq, po_ifne, po_iflt, po_ifge, po_ifgt, po_ifle, po_iceq, po_icne, po_iclt, po_icge, po_icgt, po_icle, po_ifnull, po_ifnull1, po_ret, po_iret, po_zret, po_lret, po_aret, po_getf, po_puti, po_putz, po_putl, po_puta, po_iaload, po_iastore, po_alen, po_baload, po_bastore, po_laload, po_lastore, po_aaload, po_aastore, po_invB, po_stcB, po_stcB0, po_iniB, po_new, po_newa, po_obj, po_ladd, po_lsub, po_lmul, po_ldiv, po_lrem, po_land, po_lor, po_lshl, po_lushr, po_i2l, po_l2i, po_i2c, po_lcmp, po_lstore, po_tsw, po_gets, po_max, po_min, po_maxl, po_minl, po_acopy, po_ixor, po_lds, po_slen, po_sidx, po_invT, po_stcT, po_stcT0, sk_swt, kX5_letterIn_0, kX5_handIn_0, kX5_strengthIn_0, kX5_weakened_0, kX5_codeAt_0, kX5_put_0, kX7_isSkin_0, kX7_wide_0, kX7_rows_0, kX7_legible_0, kX7_coinsAtFirst_0, kX7_cells_0, kX7_spots_0, kX7_hasCell_0, kX7_hasRow_0, kX7_hasHand_0, kX7_ofHand_0, kX7_firstOf_0, kX7_rowOf_0, kX7_placeOf_0, kX10_isLetter_0, kX10_signAt_0, kX8_writingAt_0, kX8_lawThatHolds_0, kX8_lets_0, kX9_rewind_0, kX9_step_0, kX9_stepBack_0, kX9_cut_0, kX3_clear_0, kX3_add_0, kX6_judge_0, kX6_swap_0, kX1_push_0, kX1_pop_0, kX0_forget_0, kX11_refuse_0, kX11_draw_0, kX12_in_0, kX12_has_0, kX12_here_0, kX12_bad_0, kX12_isDigit_0, kX12_isSign_0, kX12_isInk_0, kX12_of_0, kX12_setOf_0, kX12_isCell_0, kX12_isHand_0, kX12_isRow_0, kX12_isWriting_0, kX12_isLegible_0, kX12_signOf_0, kX12_areYears_0, kX12_isRefused_0, kX12_draw_0, sk_nth, sk_set, sk_lok, sk_isL, sk_one, sk_pop, sk_wt, sk_cat, sk_ent, sk_pad, sk_tl_n, sk_tl_s, List.length_cons, List.length_nil, true_and, and_true, Bool.not_false, sk_F_at, Option.getD_some, sk_w_id, sk_I_at, sk_isI, false_implies, true_implies, forall_const, ne_eq, not_true_eq_false, not_false_eq_true, implies_true, true_or, or_true, va_up_self, va_up_ne, va_up_up, sk_I_up, oA12, sk_Fu0, sk_Fu1, sk_Fu2, sk_Fu3, sk_Fu4, sk_Fu5, sk_Fu6, Nat.add_assoc, Nat.reduceAdd]
  and_intros <;> intros <;> and_intros <;> intros <;> and_intros <;> intros <;> and_intros <;> intros <;> and_intros <;> intros <;> and_intros <;> intros <;> and_intros <;> intros <;> and_intros <;> intros <;> and_intros <;> intros <;> and_intros <;> intros <;> and_intros <;> intros <;> and_intros <;> intros <;> and_intros <;> try first | omega | rfl | assumption
  refine c_wrInit (by omega) (by omega) (by omega) (va_up_self _ _ _) rfl (fun M2 g1 g2 g3 => ?_)
  obtain ⟨n2, m16⟩ := M2
  have g1' : n2 = A + 22 := by have := g1; simp only [] at this; omega
  subst g1'
  clear g1
  have oA16 : m16 (A + 9) = (8, 0, sk_F [.inr (.inr (some (A + 10))), .inr (.inr (some (A + 11))), .inr (.inr (some (A + 12))), .inr (.inr none), .inl 0, .inl 0, .inl 0]) := by
    refine (g2 _ (by omega) (Or.inl (by simp only []; omega))).trans ?_
    simp (disch := omega) only [va_up_ne, va_up_self, oA12]
  have hq16 : ∀ q, q < A + 9 → m16 q = m0 q := by
    intro q hq
    refine (g2 _ (by omega) (Or.inl (by simp only []; omega))).trans ?_
    simp (disch := omega) only [va_up_ne, va_up_self]
    exact hq12 q hq
  have H16 : ∀ k, 10 ≤ k → k < 22 → m16 (A + k) = x0 A k := by
    intro k k0 k1
    by_cases hk0 : k < 16
    · refine (g2 _ (by omega) (Or.inl (by simp only []; omega))).trans ?_
      simp (disch := omega) only [va_up_ne, va_up_self]
      exact H12 k k0 hk0
    · have hk : k = 16 ∨ k = 17 ∨ k = 18 ∨ k = 19 ∨ k = 20 ∨ k = 21 := by omega
      rcases hk with rfl | rfl | rfl | rfl | rfl | rfl
      · exact g3.1
      · exact g3.2.1
      · exact g3.2.2.1
      · exact g3.2.2.2.1
      · exact g3.2.2.2.2.1
      · exact g3.2.2.2.2.2
  clear g2
  simp (disch := omega) only [po_i, po_l, po_null, po_iload, po_lload, po_aload, po_istore, po_astore, po_iinc, po_iadd, po_isub, po_imul, po_ineg, po_iand, po_ior, po_ishl, po_ishr, po_iushr, po_idiv, po_irem, po_dup, po_dup2, po_pop, po_ifeq, po_ifne, po_iflt, po_ifge, po_ifgt, po_ifle, po_iceq, po_icne, po_iclt, po_icge, po_icgt, po_icle, po_ifnull, po_ifnull1, po_ret, po_iret, po_zret, po_lret, po_aret, po_getf, po_puti, po_putz, po_putl, po_puta, po_iaload, po_iastore, po_alen, po_baload, po_bastore, po_laload, po_lastore, po_aaload, po_aastore, po_invB, po_stcB, po_stcB0, po_iniB, po_new, po_newa, po_obj, po_ladd, po_lsub, po_lmul, po_ldiv, po_lrem, po_land, po_lor, po_lshl, po_lushr, po_i2l, po_l2i, po_i2c, po_lcmp, po_lstore, po_tsw, po_gets, po_max, po_min, po_maxl, po_minl, po_acopy, po_ixor, po_lds, po_slen, po_sidx, po_invT, po_stcT, po_stcT0, sk_swt, kX5_letterIn_0, kX5_handIn_0, kX5_strengthIn_0, kX5_weakened_0, kX5_codeAt_0, kX5_put_0, kX7_isSkin_0, kX7_wide_0, kX7_rows_0, kX7_legible_0, kX7_coinsAtFirst_0, kX7_cells_0, kX7_spots_0, kX7_hasCell_0, kX7_hasRow_0, kX7_hasHand_0, kX7_ofHand_0, kX7_firstOf_0, kX7_rowOf_0, kX7_placeOf_0, kX10_isLetter_0, kX10_signAt_0, kX8_writingAt_0, kX8_lawThatHolds_0, kX8_lets_0, kX9_rewind_0, kX9_step_0, kX9_stepBack_0, kX9_cut_0, kX3_clear_0, kX3_add_0, kX6_judge_0, kX6_swap_0, kX1_push_0, kX1_pop_0, kX0_forget_0, kX11_refuse_0, kX11_draw_0, kX12_in_0, kX12_has_0, kX12_here_0, kX12_bad_0, kX12_isDigit_0, kX12_isSign_0, kX12_isInk_0, kX12_of_0, kX12_setOf_0, kX12_isCell_0, kX12_isHand_0, kX12_isRow_0, kX12_isWriting_0, kX12_isLegible_0, kX12_signOf_0, kX12_areYears_0, kX12_isRefused_0, kX12_draw_0, sk_nth, sk_set, sk_lok, sk_isL, sk_one, sk_pop, sk_wt, sk_cat, sk_ent, sk_pad, sk_tl_n, sk_tl_s, List.length_cons, List.length_nil, true_and, and_true, Bool.not_false, sk_F_at, Option.getD_some, sk_w_id, sk_I_at, sk_isI, false_implies, true_implies, forall_const, ne_eq, not_true_eq_false, not_false_eq_true, implies_true, true_or, or_true, va_up_self, va_up_ne, va_up_up, sk_I_up, oA16, sk_Fu0, sk_Fu1, sk_Fu2, sk_Fu3, sk_Fu4, sk_Fu5, sk_Fu6, Nat.add_assoc, Nat.reduceAdd]
  and_intros <;> intros <;> and_intros <;> intros <;> and_intros <;> intros <;> and_intros <;> intros <;> and_intros <;> intros <;> and_intros <;> intros <;> and_intros <;> intros <;> and_intros <;> intros <;> and_intros <;> intros <;> and_intros <;> intros <;> and_intros <;> intros <;> and_intros <;> intros <;> and_intros <;> try first | omega | rfl | assumption
  refine hQ _ rfl (fun q hq => ?_) ?_ (fun k k0 k1 => ?_)
  · simp (disch := omega) only [va_up_ne, va_up_self]
    exact hq16 q hq
  · simp (disch := omega) only [va_up_ne, va_up_self] <;> rfl
  · by_cases hk0 : k < 22
    · simp (disch := omega) only [va_up_ne, va_up_self]
      exact H16 k k0 hk0
    · omega
set_option maxRecDepth 20000 in
theorem c_hiInit (hd : 5 ≤ d) (hc : 6 ≤ ck) (hc2 : 627 ≤ sk) (hp : M.2 (A + 30) = (0, 0, sk_F [.inr (.inr none), .inl 0, .inl 0, .inr (.inr none), .inr (.inr none), .inl 0])) (ha : A + 30 + 1 = M.1) (hQ : ∀ M' : sk_M, M'.1 = A + 37 → (∀ q, q < A + 30 → M'.2 q = M.2 q) → M'.2 (A + 30) = x0 A 30 → (∀ k, 31 ≤ k → k < 37 → M'.2 (A + k) = x0 A k) → Q none M') : sk_call g d ck sk xX0_init [.inr (.inr (some (A + 30)))] M Q := by
  obtain ⟨n, m0⟩ := M
  have ha' : n = A + 30 + 1 := ha.symm
  subst ha'
  replace hp : m0 (A + 30) = (0, 0, sk_F [.inr (.inr none), .inl 0, .inl 0, .inr (.inr none), .inr (.inr none), .inl 0]) := hp
  have hq0 : ∀ q, q < A + 30 → m0 q = m0 q := fun _ _ => rfl
  refine tX0_init_0 _ _ _ ?_
  simp (disch := omega) only [kX0_init_0, po_i, po_l, po_null, po_iload, po_lload, po_aload, po_istore, po_astore, po_iinc, po_iadd, po_isub, po_imul, po_ineg, po_iand, po_ior, po_ishl, po_ishr, po_iushr, po_idiv, po_irem, po_dup, po_dup2, po_pop, po_ifeq, po_ifne, po_iflt, po_ifge, po_ifgt, po_ifle, po_iceq, po_icne, po_iclt, po_icge, po_icgt, po_icle, po_ifnull, po_ifnull1, po_ret, po_iret, po_zret, po_lret, po_aret, po_getf, po_puti, po_putz, po_putl, po_puta, po_iaload, po_iastore, po_alen, po_baload, po_bastore, po_laload, po_lastore, po_aaload, po_aastore, po_invB, po_stcB, po_stcB0, po_iniB, po_new, po_newa, po_obj, po_ladd, po_lsub, po_lmul, po_ldiv, po_lrem, po_land, po_lor, po_lshl, po_lushr, po_i2l, po_l2i, po_i2c, po_lcmp, po_lstore, po_tsw, po_gets, po_max, po_min, po_maxl, po_minl, po_acopy, po_ixor, po_lds, po_slen, po_sidx, po_invT, po_stcT, po_stcT0, sk_swt, kX5_letterIn_0, kX5_handIn_0, kX5_strengthIn_0, kX5_weakened_0, kX5_codeAt_0, kX5_put_0, kX7_isSkin_0, kX7_wide_0, kX7_rows_0, kX7_legible_0, kX7_coinsAtFirst_0, kX7_cells_0, kX7_spots_0, kX7_hasCell_0, kX7_hasRow_0, kX7_hasHand_0, kX7_ofHand_0, kX7_firstOf_0, kX7_rowOf_0, kX7_placeOf_0, kX10_isLetter_0, kX10_signAt_0, kX8_writingAt_0, kX8_lawThatHolds_0, kX8_lets_0, kX9_rewind_0, kX9_step_0, kX9_stepBack_0, kX9_cut_0, kX3_clear_0, kX3_add_0, kX6_judge_0, kX6_swap_0, kX1_push_0, kX1_pop_0, kX0_forget_0, kX11_refuse_0, kX11_draw_0, kX12_in_0, kX12_has_0, kX12_here_0, kX12_bad_0, kX12_isDigit_0, kX12_isSign_0, kX12_isInk_0, kX12_of_0, kX12_setOf_0, kX12_isCell_0, kX12_isHand_0, kX12_isRow_0, kX12_isWriting_0, kX12_isLegible_0, kX12_signOf_0, kX12_areYears_0, kX12_isRefused_0, kX12_draw_0, sk_nth, sk_set, sk_lok, sk_isL, sk_one, sk_pop, sk_wt, sk_cat, sk_ent, sk_pad, sk_tl_n, sk_tl_s, List.length_cons, List.length_nil, true_and, and_true, Bool.not_false, sk_F_at, Option.getD_some, sk_w_id, sk_I_at, sk_isI, false_implies, true_implies, forall_const, ne_eq, not_true_eq_false, not_false_eq_true, implies_true, true_or, or_true, va_up_self, va_up_ne, va_up_up, sk_I_up, hp, sk_Fu0, sk_Fu1, sk_Fu2, sk_Fu3, sk_Fu4, sk_Fu5, Nat.add_assoc, Nat.reduceAdd]
  and_intros <;> intros <;> and_intros <;> intros <;> and_intros <;> intros <;> and_intros <;> intros <;> and_intros <;> intros <;> and_intros <;> intros <;> and_intros <;> intros <;> and_intros <;> intros <;> and_intros <;> intros <;> and_intros <;> intros <;> and_intros <;> intros <;> and_intros <;> intros <;> and_intros <;> try first | omega | rfl | assumption
  refine c_pgInit (by omega) (by omega) (by omega) (va_up_self _ _ _) (by simp only []; omega) (fun M2 g1 g2 g3 => ?_)
  obtain ⟨n2, m32⟩ := M2
  have g1' : n2 = A + 35 := by have := g1; simp only [] at this; omega
  subst g1'
  clear g1
  have oA32 : m32 (A + 30) = (0, 0, sk_F [.inr (.inr (some (A + 31))), .inl 0, .inl 0, .inr (.inr none), .inr (.inr none), .inl 0]) := by
    refine (g2 _ (by omega) (by simp only []; omega) (by simp only []; omega)).trans ?_
    simp (disch := omega) only [va_up_ne, va_up_self, hp]
  have hq32 : ∀ q, q < A + 30 → m32 q = m0 q := by
    intro q hq
    refine (g2 _ (by omega) (by simp only []; omega) (by simp only []; omega)).trans ?_
    simp (disch := omega) only [va_up_ne, va_up_self]
  have H32 : ∀ k, 31 ≤ k → k < 35 → m32 (A + k) = x0 A k := by
    intro k k0 k1
    · have hk : k = 31 ∨ k = 32 ∨ k = 33 ∨ k = 34 := by omega
      rcases hk with rfl | rfl | rfl | rfl
      · refine (g2 _ (by omega) (by simp only []; omega) (by simp only []; omega)).trans ?_
        simp (disch := omega) only [va_up_ne, va_up_self] <;> rfl
      · exact g3.1
      · exact g3.2.1
      · exact g3.2.2
  clear g2
  simp (disch := omega) only [po_i, po_l, po_null, po_iload, po_lload, po_aload, po_istore, po_astore, po_iinc, po_iadd, po_isub, po_imul, po_ineg, po_iand, po_ior, po_ishl, po_ishr, po_iushr, po_idiv, po_irem, po_dup, po_dup2, po_pop, po_ifeq, po_ifne, po_iflt, po_ifge, po_ifgt, po_ifle, po_iceq, po_icne, po_iclt, po_icge, po_icgt, po_icle, po_ifnull, po_ifnull1, po_ret, po_iret, po_zret, po_lret, po_aret, po_getf, po_puti, po_putz, po_putl, po_puta, po_iaload, po_iastore, po_alen, po_baload, po_bastore, po_laload, po_lastore, po_aaload, po_aastore, po_invB, po_stcB, po_stcB0, po_iniB, po_new, po_newa, po_obj, po_ladd, po_lsub, po_lmul, po_ldiv, po_lrem, po_land, po_lor, po_lshl, po_lushr, po_i2l, po_l2i, po_i2c, po_lcmp, po_lstore, po_tsw, po_gets, po_max, po_min, po_maxl, po_minl, po_acopy, po_ixor, po_lds, po_slen, po_sidx, po_invT, po_stcT, po_stcT0, sk_swt, kX5_letterIn_0, kX5_handIn_0, kX5_strengthIn_0, kX5_weakened_0, kX5_codeAt_0, kX5_put_0, kX7_isSkin_0, kX7_wide_0, kX7_rows_0, kX7_legible_0, kX7_coinsAtFirst_0, kX7_cells_0, kX7_spots_0, kX7_hasCell_0, kX7_hasRow_0, kX7_hasHand_0, kX7_ofHand_0, kX7_firstOf_0, kX7_rowOf_0, kX7_placeOf_0, kX10_isLetter_0, kX10_signAt_0, kX8_writingAt_0, kX8_lawThatHolds_0, kX8_lets_0, kX9_rewind_0, kX9_step_0, kX9_stepBack_0, kX9_cut_0, kX3_clear_0, kX3_add_0, kX6_judge_0, kX6_swap_0, kX1_push_0, kX1_pop_0, kX0_forget_0, kX11_refuse_0, kX11_draw_0, kX12_in_0, kX12_has_0, kX12_here_0, kX12_bad_0, kX12_isDigit_0, kX12_isSign_0, kX12_isInk_0, kX12_of_0, kX12_setOf_0, kX12_isCell_0, kX12_isHand_0, kX12_isRow_0, kX12_isWriting_0, kX12_isLegible_0, kX12_signOf_0, kX12_areYears_0, kX12_isRefused_0, kX12_draw_0, sk_nth, sk_set, sk_lok, sk_isL, sk_one, sk_pop, sk_wt, sk_cat, sk_ent, sk_pad, sk_tl_n, sk_tl_s, List.length_cons, List.length_nil, true_and, and_true, Bool.not_false, sk_F_at, Option.getD_some, sk_w_id, sk_I_at, sk_isI, false_implies, true_implies, forall_const, ne_eq, not_true_eq_false, not_false_eq_true, implies_true, true_or, or_true, va_up_self, va_up_ne, va_up_up, sk_I_up, oA32, sk_Fu0, sk_Fu1, sk_Fu2, sk_Fu3, sk_Fu4, sk_Fu5, Nat.add_assoc, Nat.reduceAdd]
  and_intros <;> intros <;> and_intros <;> intros <;> and_intros <;> intros <;> and_intros <;> intros <;> and_intros <;> intros <;> and_intros <;> intros <;> and_intros <;> intros <;> and_intros <;> intros <;> and_intros <;> intros <;> and_intros <;> intros <;> and_intros <;> intros <;> and_intros <;> intros <;> and_intros <;> try first | omega | rfl | assumption
  refine c_logInit (by omega) (by omega) (by omega) (va_up_self _ _ _) rfl (fun M2 g1 g2 g3 => ?_)
  obtain ⟨n2, m35⟩ := M2
  have g1' : n2 = A + 37 := by have := g1; simp only [] at this; omega
  subst g1'
  clear g1
  have oA35 : m35 (A + 30) = (0, 0, sk_F [.inr (.inr (some (A + 31))), .inl 0, .inl 0, .inr (.inr (some (A + 32))), .inr (.inr none), .inl 0]) := by
    refine (g2 _ (by omega) (Or.inl (by simp only []; omega))).trans ?_
    simp (disch := omega) only [va_up_ne, va_up_self, oA32]
  have hq35 : ∀ q, q < A + 30 → m35 q = m0 q := by
    intro q hq
    refine (g2 _ (by omega) (Or.inl (by simp only []; omega))).trans ?_
    simp (disch := omega) only [va_up_ne, va_up_self]
    exact hq32 q hq
  have H35 : ∀ k, 31 ≤ k → k < 37 → m35 (A + k) = x0 A k := by
    intro k k0 k1
    by_cases hk0 : k < 35
    · refine (g2 _ (by omega) (Or.inl (by simp only []; omega))).trans ?_
      simp (disch := omega) only [va_up_ne, va_up_self]
      exact H32 k k0 hk0
    · have hk : k = 35 ∨ k = 36 := by omega
      rcases hk with rfl | rfl
      · exact g3.1
      · exact g3.2
  clear g2
  simp (disch := omega) only [po_i, po_l, po_null, po_iload, po_lload, po_aload, po_istore, po_astore, po_iinc, po_iadd, po_isub, po_imul, po_ineg, po_iand, po_ior, po_ishl, po_ishr, po_iushr, po_idiv, po_irem, po_dup, po_dup2, po_pop, po_ifeq, po_ifne, po_iflt, po_ifge, po_ifgt, po_ifle, po_iceq, po_icne, po_iclt, po_icge, po_icgt, po_icle, po_ifnull, po_ifnull1, po_ret, po_iret, po_zret, po_lret, po_aret, po_getf, po_puti, po_putz, po_putl, po_puta, po_iaload, po_iastore, po_alen, po_baload, po_bastore, po_laload, po_lastore, po_aaload, po_aastore, po_invB, po_stcB, po_stcB0, po_iniB, po_new, po_newa, po_obj, po_ladd, po_lsub, po_lmul, po_ldiv, po_lrem, po_land, po_lor, po_lshl, po_lushr, po_i2l, po_l2i, po_i2c, po_lcmp, po_lstore, po_tsw, po_gets, po_max, po_min, po_maxl, po_minl, po_acopy, po_ixor, po_lds, po_slen, po_sidx, po_invT, po_stcT, po_stcT0, sk_swt, kX5_letterIn_0, kX5_handIn_0, kX5_strengthIn_0, kX5_weakened_0, kX5_codeAt_0, kX5_put_0, kX7_isSkin_0, kX7_wide_0, kX7_rows_0, kX7_legible_0, kX7_coinsAtFirst_0, kX7_cells_0, kX7_spots_0, kX7_hasCell_0, kX7_hasRow_0, kX7_hasHand_0, kX7_ofHand_0, kX7_firstOf_0, kX7_rowOf_0, kX7_placeOf_0, kX10_isLetter_0, kX10_signAt_0, kX8_writingAt_0, kX8_lawThatHolds_0, kX8_lets_0, kX9_rewind_0, kX9_step_0, kX9_stepBack_0, kX9_cut_0, kX3_clear_0, kX3_add_0, kX6_judge_0, kX6_swap_0, kX1_push_0, kX1_pop_0, kX0_forget_0, kX11_refuse_0, kX11_draw_0, kX12_in_0, kX12_has_0, kX12_here_0, kX12_bad_0, kX12_isDigit_0, kX12_isSign_0, kX12_isInk_0, kX12_of_0, kX12_setOf_0, kX12_isCell_0, kX12_isHand_0, kX12_isRow_0, kX12_isWriting_0, kX12_isLegible_0, kX12_signOf_0, kX12_areYears_0, kX12_isRefused_0, kX12_draw_0, sk_nth, sk_set, sk_lok, sk_isL, sk_one, sk_pop, sk_wt, sk_cat, sk_ent, sk_pad, sk_tl_n, sk_tl_s, List.length_cons, List.length_nil, true_and, and_true, Bool.not_false, sk_F_at, Option.getD_some, sk_w_id, sk_I_at, sk_isI, false_implies, true_implies, forall_const, ne_eq, not_true_eq_false, not_false_eq_true, implies_true, true_or, or_true, va_up_self, va_up_ne, va_up_up, sk_I_up, oA35, sk_Fu0, sk_Fu1, sk_Fu2, sk_Fu3, sk_Fu4, sk_Fu5, Nat.add_assoc, Nat.reduceAdd]
  and_intros <;> intros <;> and_intros <;> intros <;> and_intros <;> intros <;> and_intros <;> intros <;> and_intros <;> intros <;> and_intros <;> intros <;> and_intros <;> intros <;> and_intros <;> intros <;> and_intros <;> intros <;> and_intros <;> intros <;> and_intros <;> intros <;> and_intros <;> intros <;> and_intros <;> try first | omega | rfl | assumption
  refine hQ _ rfl (fun q hq => ?_) ?_ (fun k k0 k1 => ?_)
  · simp (disch := omega) only [va_up_ne, va_up_self]
    exact hq35 q hq
  · simp (disch := omega) only [va_up_ne, va_up_self] <;> rfl
  · by_cases hk0 : k < 37
    · simp (disch := omega) only [va_up_ne, va_up_self]
      exact H35 k k0 hk0
    · omega
set_option maxRecDepth 20000 in
theorem c_xInit (hd : 8 ≤ d) (hc : 60 ≤ ck) (hc2 : 4000 ≤ sk) (hp : M.2 (A) = (11, 0, sk_F [.inr (.inr none), .inr (.inr none), .inr (.inr none), .inr (.inr none), .inr (.inr none), .inr (.inr none), .inr (.inr none), .inr (.inr none), .inr (.inr none), .inr (.inr none), .inr (.inr none), .inr (.inr none), .inr (.inr none), .inr (.inr none), .inr (.inr none), .inl 0, .inr (.inl 0)])) (ha : A + 1 = M.1) (hQ : ∀ M' : sk_M, M'.1 = A + 53 → (∀ q, q < A → M'.2 q = M.2 q) → M'.2 (A) = (11, 0, xF A (A + 3) (A + 6) 4 0) → (∀ k, 1 ≤ k → k < 53 → M'.2 (A + k) = x0 A k) → Q none M') : sk_call g d ck sk xX11_init [.inr (.inr (some (A)))] M Q := by
  obtain ⟨n, m0⟩ := M
  have ha' : n = A + 1 := ha.symm
  subst ha'
  replace hp : m0 (A) = (11, 0, sk_F [.inr (.inr none), .inr (.inr none), .inr (.inr none), .inr (.inr none), .inr (.inr none), .inr (.inr none), .inr (.inr none), .inr (.inr none), .inr (.inr none), .inr (.inr none), .inr (.inr none), .inr (.inr none), .inr (.inr none), .inr (.inr none), .inr (.inr none), .inl 0, .inr (.inl 0)]) := hp
  have hq0 : ∀ q, q < A → m0 q = m0 q := fun _ _ => rfl
  refine tX11_init_0 _ _ _ ?_
  simp (disch := omega) only [kX11_init_0, po_i, po_l, po_null, po_iload, po_lload, po_aload, po_istore, po_astore, po_iinc, po_iadd, po_isub, po_imul, po_ineg, po_iand, po_ior, po_ishl, po_ishr, po_iushr, po_idiv, po_irem, po_dup, po_dup2, po_pop, po_ifeq, po_ifne, po_iflt, po_ifge, po_ifgt, po_ifle, po_iceq, po_icne, po_iclt, po_icge, po_icgt, po_icle, po_ifnull, po_ifnull1, po_ret, po_iret, po_zret, po_lret, po_aret, po_getf, po_puti, po_putz, po_putl, po_puta, po_iaload, po_iastore, po_alen, po_baload, po_bastore, po_laload, po_lastore, po_aaload, po_aastore, po_invB, po_stcB, po_stcB0, po_iniB, po_new, po_newa, po_obj, po_ladd, po_lsub, po_lmul, po_ldiv, po_lrem, po_land, po_lor, po_lshl, po_lushr, po_i2l, po_l2i, po_i2c, po_lcmp, po_lstore, po_tsw, po_gets, po_max, po_min, po_maxl, po_minl, po_acopy, po_ixor, po_lds, po_slen, po_sidx, po_invT, po_stcT, po_stcT0, sk_swt, kX5_letterIn_0, kX5_handIn_0, kX5_strengthIn_0, kX5_weakened_0, kX5_codeAt_0, kX5_put_0, kX7_isSkin_0, kX7_wide_0, kX7_rows_0, kX7_legible_0, kX7_coinsAtFirst_0, kX7_cells_0, kX7_spots_0, kX7_hasCell_0, kX7_hasRow_0, kX7_hasHand_0, kX7_ofHand_0, kX7_firstOf_0, kX7_rowOf_0, kX7_placeOf_0, kX10_isLetter_0, kX10_signAt_0, kX8_writingAt_0, kX8_lawThatHolds_0, kX8_lets_0, kX9_rewind_0, kX9_step_0, kX9_stepBack_0, kX9_cut_0, kX3_clear_0, kX3_add_0, kX6_judge_0, kX6_swap_0, kX1_push_0, kX1_pop_0, kX0_forget_0, kX11_refuse_0, kX11_draw_0, kX12_in_0, kX12_has_0, kX12_here_0, kX12_bad_0, kX12_isDigit_0, kX12_isSign_0, kX12_isInk_0, kX12_of_0, kX12_setOf_0, kX12_isCell_0, kX12_isHand_0, kX12_isRow_0, kX12_isWriting_0, kX12_isLegible_0, kX12_signOf_0, kX12_areYears_0, kX12_isRefused_0, kX12_draw_0, sk_nth, sk_set, sk_lok, sk_isL, sk_one, sk_pop, sk_wt, sk_cat, sk_ent, sk_pad, sk_tl_n, sk_tl_s, List.length_cons, List.length_nil, true_and, and_true, Bool.not_false, sk_F_at, Option.getD_some, sk_w_id, sk_I_at, sk_isI, false_implies, true_implies, forall_const, ne_eq, not_true_eq_false, not_false_eq_true, implies_true, true_or, or_true, va_up_self, va_up_ne, va_up_up, sk_I_up, hp, sk_Fu0, sk_Fu1, sk_Fu2, sk_Fu3, sk_Fu4, sk_Fu5, sk_Fu6, sk_Fu7, sk_Fu8, sk_Fu9, sk_Fu10, sk_Fu11, sk_Fu12, sk_Fu13, sk_Fu14, sk_Fu15, sk_Fu16, Nat.add_assoc, Nat.reduceAdd]
  and_intros <;> intros <;> and_intros <;> intros <;> and_intros <;> intros <;> and_intros <;> intros <;> and_intros <;> intros <;> and_intros <;> intros <;> and_intros <;> intros <;> and_intros <;> intros <;> and_intros <;> intros <;> and_intros <;> intros <;> and_intros <;> intros <;> and_intros <;> intros <;> and_intros <;> try first | omega | rfl | assumption
  refine c_tpInit (by omega) (by omega) (by omega) (va_up_self _ _ _) rfl (fun M2 g1 g2 g3 => ?_)
  obtain ⟨n2, m1⟩ := M2
  have g1' : n2 = A + 3 := by have := g1; simp only [] at this; omega
  subst g1'
  clear g1
  have oA1 : m1 (A) = (11, 0, sk_F [.inr (.inr none), .inr (.inr none), .inr (.inr none), .inr (.inr none), .inr (.inr none), .inr (.inr none), .inr (.inr none), .inr (.inr none), .inr (.inr none), .inr (.inr none), .inr (.inr none), .inr (.inr none), .inr (.inr none), .inr (.inr none), .inr (.inr none), .inl 0, .inr (.inl 0)]) := by
    refine (g2 _ (by omega) (Or.inl (by simp only []; omega))).trans ?_
    simp (disch := omega) only [va_up_ne, va_up_self, hp]
  have hq1 : ∀ q, q < A → m1 q = m0 q := by
    intro q hq
    refine (g2 _ (by omega) (Or.inl (by simp only []; omega))).trans ?_
    simp (disch := omega) only [va_up_ne, va_up_self]
  have H1 : ∀ k, 1 ≤ k → k < 3 → m1 (A + k) = x0 A k := by
    intro k k0 k1
    · have hk : k = 1 ∨ k = 2 := by omega
      rcases hk with rfl | rfl
      · exact g3.1
      · exact g3.2
  clear g2
  simp (disch := omega) only [po_i, po_l, po_null, po_iload, po_lload, po_aload, po_istore, po_astore, po_iinc, po_iadd, po_isub, po_imul, po_ineg, po_iand, po_ior, po_ishl, po_ishr, po_iushr, po_idiv, po_irem, po_dup, po_dup2, po_pop, po_ifeq, po_ifne, po_iflt, po_ifge, po_ifgt, po_ifle, po_iceq, po_icne, po_iclt, po_icge, po_icgt, po_icle, po_ifnull, po_ifnull1, po_ret, po_iret, po_zret, po_lret, po_aret, po_getf, po_puti, po_putz, po_putl, po_puta, po_iaload, po_iastore, po_alen, po_baload, po_bastore, po_laload, po_lastore, po_aaload, po_aastore, po_invB, po_stcB, po_stcB0, po_iniB, po_new, po_newa, po_obj, po_ladd, po_lsub, po_lmul, po_ldiv, po_lrem, po_land, po_lor, po_lshl, po_lushr, po_i2l, po_l2i, po_i2c, po_lcmp, po_lstore, po_tsw, po_gets, po_max, po_min, po_maxl, po_minl, po_acopy, po_ixor, po_lds, po_slen, po_sidx, po_invT, po_stcT, po_stcT0, sk_swt, kX5_letterIn_0, kX5_handIn_0, kX5_strengthIn_0, kX5_weakened_0, kX5_codeAt_0, kX5_put_0, kX7_isSkin_0, kX7_wide_0, kX7_rows_0, kX7_legible_0, kX7_coinsAtFirst_0, kX7_cells_0, kX7_spots_0, kX7_hasCell_0, kX7_hasRow_0, kX7_hasHand_0, kX7_ofHand_0, kX7_firstOf_0, kX7_rowOf_0, kX7_placeOf_0, kX10_isLetter_0, kX10_signAt_0, kX8_writingAt_0, kX8_lawThatHolds_0, kX8_lets_0, kX9_rewind_0, kX9_step_0, kX9_stepBack_0, kX9_cut_0, kX3_clear_0, kX3_add_0, kX6_judge_0, kX6_swap_0, kX1_push_0, kX1_pop_0, kX0_forget_0, kX11_refuse_0, kX11_draw_0, kX12_in_0, kX12_has_0, kX12_here_0, kX12_bad_0, kX12_isDigit_0, kX12_isSign_0, kX12_isInk_0, kX12_of_0, kX12_setOf_0, kX12_isCell_0, kX12_isHand_0, kX12_isRow_0, kX12_isWriting_0, kX12_isLegible_0, kX12_signOf_0, kX12_areYears_0, kX12_isRefused_0, kX12_draw_0, sk_nth, sk_set, sk_lok, sk_isL, sk_one, sk_pop, sk_wt, sk_cat, sk_ent, sk_pad, sk_tl_n, sk_tl_s, List.length_cons, List.length_nil, true_and, and_true, Bool.not_false, sk_F_at, Option.getD_some, sk_w_id, sk_I_at, sk_isI, false_implies, true_implies, forall_const, ne_eq, not_true_eq_false, not_false_eq_true, implies_true, true_or, or_true, va_up_self, va_up_ne, va_up_up, sk_I_up, oA1, sk_Fu0, sk_Fu1, sk_Fu2, sk_Fu3, sk_Fu4, sk_Fu5, sk_Fu6, sk_Fu7, sk_Fu8, sk_Fu9, sk_Fu10, sk_Fu11, sk_Fu12, sk_Fu13, sk_Fu14, sk_Fu15, sk_Fu16, Nat.add_assoc, Nat.reduceAdd]
  and_intros <;> intros <;> and_intros <;> intros <;> and_intros <;> intros <;> and_intros <;> intros <;> and_intros <;> intros <;> and_intros <;> intros <;> and_intros <;> intros <;> and_intros <;> intros <;> and_intros <;> intros <;> and_intros <;> intros <;> and_intros <;> intros <;> and_intros <;> intros <;> and_intros <;> try first | omega | rfl | assumption
  refine c_ruInit (by omega) (by omega) (by omega) (va_up_self _ _ _) rfl (fun M2 g1 g2 g3 => ?_)
  obtain ⟨n2, m3⟩ := M2
  have g1' : n2 = A + 6 := by have := g1; simp only [] at this; omega
  subst g1'
  clear g1
  have oA3 : m3 (A) = (11, 0, sk_F [.inr (.inr (some (A + 1))), .inr (.inr none), .inr (.inr none), .inr (.inr none), .inr (.inr none), .inr (.inr none), .inr (.inr none), .inr (.inr none), .inr (.inr none), .inr (.inr none), .inr (.inr none), .inr (.inr none), .inr (.inr none), .inr (.inr none), .inr (.inr none), .inl 0, .inr (.inl 0)]) := by
    refine (g2 _ (by omega) (Or.inl (by simp only []; omega))).trans ?_
    simp (disch := omega) only [va_up_ne, va_up_self, oA1]
  have hq3 : ∀ q, q < A → m3 q = m0 q := by
    intro q hq
    refine (g2 _ (by omega) (Or.inl (by simp only []; omega))).trans ?_
    simp (disch := omega) only [va_up_ne, va_up_self]
    exact hq1 q hq
  have H3 : ∀ k, 1 ≤ k → k < 6 → m3 (A + k) = x0 A k := by
    intro k k0 k1
    by_cases hk0 : k < 3
    · refine (g2 _ (by omega) (Or.inl (by simp only []; omega))).trans ?_
      simp (disch := omega) only [va_up_ne, va_up_self]
      exact H1 k k0 hk0
    · have hk : k = 3 ∨ k = 4 ∨ k = 5 := by omega
      rcases hk with rfl | rfl | rfl
      · exact g3.1
      · exact g3.2.1
      · exact g3.2.2
  clear g2
  simp (disch := omega) only [po_i, po_l, po_null, po_iload, po_lload, po_aload, po_istore, po_astore, po_iinc, po_iadd, po_isub, po_imul, po_ineg, po_iand, po_ior, po_ishl, po_ishr, po_iushr, po_idiv, po_irem, po_dup, po_dup2, po_pop, po_ifeq, po_ifne, po_iflt, po_ifge, po_ifgt, po_ifle, po_iceq, po_icne, po_iclt, po_icge, po_icgt, po_icle, po_ifnull, po_ifnull1, po_ret, po_iret, po_zret, po_lret, po_aret, po_getf, po_puti, po_putz, po_putl, po_puta, po_iaload, po_iastore, po_alen, po_baload, po_bastore, po_laload, po_lastore, po_aaload, po_aastore, po_invB, po_stcB, po_stcB0, po_iniB, po_new, po_newa, po_obj, po_ladd, po_lsub, po_lmul, po_ldiv, po_lrem, po_land, po_lor, po_lshl, po_lushr, po_i2l, po_l2i, po_i2c, po_lcmp, po_lstore, po_tsw, po_gets, po_max, po_min, po_maxl, po_minl, po_acopy, po_ixor, po_lds, po_slen, po_sidx, po_invT, po_stcT, po_stcT0, sk_swt, kX5_letterIn_0, kX5_handIn_0, kX5_strengthIn_0, kX5_weakened_0, kX5_codeAt_0, kX5_put_0, kX7_isSkin_0, kX7_wide_0, kX7_rows_0, kX7_legible_0, kX7_coinsAtFirst_0, kX7_cells_0, kX7_spots_0, kX7_hasCell_0, kX7_hasRow_0, kX7_hasHand_0, kX7_ofHand_0, kX7_firstOf_0, kX7_rowOf_0, kX7_placeOf_0, kX10_isLetter_0, kX10_signAt_0, kX8_writingAt_0, kX8_lawThatHolds_0, kX8_lets_0, kX9_rewind_0, kX9_step_0, kX9_stepBack_0, kX9_cut_0, kX3_clear_0, kX3_add_0, kX6_judge_0, kX6_swap_0, kX1_push_0, kX1_pop_0, kX0_forget_0, kX11_refuse_0, kX11_draw_0, kX12_in_0, kX12_has_0, kX12_here_0, kX12_bad_0, kX12_isDigit_0, kX12_isSign_0, kX12_isInk_0, kX12_of_0, kX12_setOf_0, kX12_isCell_0, kX12_isHand_0, kX12_isRow_0, kX12_isWriting_0, kX12_isLegible_0, kX12_signOf_0, kX12_areYears_0, kX12_isRefused_0, kX12_draw_0, sk_nth, sk_set, sk_lok, sk_isL, sk_one, sk_pop, sk_wt, sk_cat, sk_ent, sk_pad, sk_tl_n, sk_tl_s, List.length_cons, List.length_nil, true_and, and_true, Bool.not_false, sk_F_at, Option.getD_some, sk_w_id, sk_I_at, sk_isI, false_implies, true_implies, forall_const, ne_eq, not_true_eq_false, not_false_eq_true, implies_true, true_or, or_true, va_up_self, va_up_ne, va_up_up, sk_I_up, oA3, sk_Fu0, sk_Fu1, sk_Fu2, sk_Fu3, sk_Fu4, sk_Fu5, sk_Fu6, sk_Fu7, sk_Fu8, sk_Fu9, sk_Fu10, sk_Fu11, sk_Fu12, sk_Fu13, sk_Fu14, sk_Fu15, sk_Fu16, Nat.add_assoc, Nat.reduceAdd]
  and_intros <;> intros <;> and_intros <;> intros <;> and_intros <;> intros <;> and_intros <;> intros <;> and_intros <;> intros <;> and_intros <;> intros <;> and_intros <;> intros <;> and_intros <;> intros <;> and_intros <;> intros <;> and_intros <;> intros <;> and_intros <;> intros <;> and_intros <;> intros <;> and_intros <;> try first | omega | rfl | assumption
  refine c_ruInit (by omega) (by omega) (by omega) (va_up_self _ _ _) rfl (fun M2 g1 g2 g3 => ?_)
  obtain ⟨n2, m6⟩ := M2
  have g1' : n2 = A + 9 := by have := g1; simp only [] at this; omega
  subst g1'
  clear g1
  have oA6 : m6 (A) = (11, 0, sk_F [.inr (.inr (some (A + 1))), .inr (.inr (some (A + 3))), .inr (.inr none), .inr (.inr none), .inr (.inr none), .inr (.inr none), .inr (.inr none), .inr (.inr none), .inr (.inr none), .inr (.inr none), .inr (.inr none), .inr (.inr none), .inr (.inr none), .inr (.inr none), .inr (.inr none), .inl 0, .inr (.inl 0)]) := by
    refine (g2 _ (by omega) (Or.inl (by simp only []; omega))).trans ?_
    simp (disch := omega) only [va_up_ne, va_up_self, oA3]
  have hq6 : ∀ q, q < A → m6 q = m0 q := by
    intro q hq
    refine (g2 _ (by omega) (Or.inl (by simp only []; omega))).trans ?_
    simp (disch := omega) only [va_up_ne, va_up_self]
    exact hq3 q hq
  have H6 : ∀ k, 1 ≤ k → k < 9 → m6 (A + k) = x0 A k := by
    intro k k0 k1
    by_cases hk0 : k < 6
    · refine (g2 _ (by omega) (Or.inl (by simp only []; omega))).trans ?_
      simp (disch := omega) only [va_up_ne, va_up_self]
      exact H3 k k0 hk0
    · have hk : k = 6 ∨ k = 7 ∨ k = 8 := by omega
      rcases hk with rfl | rfl | rfl
      · exact g3.1
      · exact g3.2.1
      · exact g3.2.2
  clear g2
  simp (disch := omega) only [po_i, po_l, po_null, po_iload, po_lload, po_aload, po_istore, po_astore, po_iinc, po_iadd, po_isub, po_imul, po_ineg, po_iand, po_ior, po_ishl, po_ishr, po_iushr, po_idiv, po_irem, po_dup, po_dup2, po_pop, po_ifeq, po_ifne, po_iflt, po_ifge, po_ifgt, po_ifle, po_iceq, po_icne, po_iclt, po_icge, po_icgt, po_icle, po_ifnull, po_ifnull1, po_ret, po_iret, po_zret, po_lret, po_aret, po_getf, po_puti, po_putz, po_putl, po_puta, po_iaload, po_iastore, po_alen, po_baload, po_bastore, po_laload, po_lastore, po_aaload, po_aastore, po_invB, po_stcB, po_stcB0, po_iniB, po_new, po_newa, po_obj, po_ladd, po_lsub, po_lmul, po_ldiv, po_lrem, po_land, po_lor, po_lshl, po_lushr, po_i2l, po_l2i, po_i2c, po_lcmp, po_lstore, po_tsw, po_gets, po_max, po_min, po_maxl, po_minl, po_acopy, po_ixor, po_lds, po_slen, po_sidx, po_invT, po_stcT, po_stcT0, sk_swt, kX5_letterIn_0, kX5_handIn_0, kX5_strengthIn_0, kX5_weakened_0, kX5_codeAt_0, kX5_put_0, kX7_isSkin_0, kX7_wide_0, kX7_rows_0, kX7_legible_0, kX7_coinsAtFirst_0, kX7_cells_0, kX7_spots_0, kX7_hasCell_0, kX7_hasRow_0, kX7_hasHand_0, kX7_ofHand_0, kX7_firstOf_0, kX7_rowOf_0, kX7_placeOf_0, kX10_isLetter_0, kX10_signAt_0, kX8_writingAt_0, kX8_lawThatHolds_0, kX8_lets_0, kX9_rewind_0, kX9_step_0, kX9_stepBack_0, kX9_cut_0, kX3_clear_0, kX3_add_0, kX6_judge_0, kX6_swap_0, kX1_push_0, kX1_pop_0, kX0_forget_0, kX11_refuse_0, kX11_draw_0, kX12_in_0, kX12_has_0, kX12_here_0, kX12_bad_0, kX12_isDigit_0, kX12_isSign_0, kX12_isInk_0, kX12_of_0, kX12_setOf_0, kX12_isCell_0, kX12_isHand_0, kX12_isRow_0, kX12_isWriting_0, kX12_isLegible_0, kX12_signOf_0, kX12_areYears_0, kX12_isRefused_0, kX12_draw_0, sk_nth, sk_set, sk_lok, sk_isL, sk_one, sk_pop, sk_wt, sk_cat, sk_ent, sk_pad, sk_tl_n, sk_tl_s, List.length_cons, List.length_nil, true_and, and_true, Bool.not_false, sk_F_at, Option.getD_some, sk_w_id, sk_I_at, sk_isI, false_implies, true_implies, forall_const, ne_eq, not_true_eq_false, not_false_eq_true, implies_true, true_or, or_true, va_up_self, va_up_ne, va_up_up, sk_I_up, oA6, sk_Fu0, sk_Fu1, sk_Fu2, sk_Fu3, sk_Fu4, sk_Fu5, sk_Fu6, sk_Fu7, sk_Fu8, sk_Fu9, sk_Fu10, sk_Fu11, sk_Fu12, sk_Fu13, sk_Fu14, sk_Fu15, sk_Fu16, Nat.add_assoc, Nat.reduceAdd]
  and_intros <;> intros <;> and_intros <;> intros <;> and_intros <;> intros <;> and_intros <;> intros <;> and_intros <;> intros <;> and_intros <;> intros <;> and_intros <;> intros <;> and_intros <;> intros <;> and_intros <;> intros <;> and_intros <;> intros <;> and_intros <;> intros <;> and_intros <;> intros <;> and_intros <;> try first | omega | rfl | assumption
  refine c_shInit (A := A) (by omega) (by omega) (by omega) (va_up_self _ _ _) rfl (fun M2 g1 g2 g3 g4 => ?_)
  obtain ⟨n2, m9⟩ := M2
  have g1' : n2 = A + 22 := by have := g1; simp only [] at this; omega
  subst g1'
  clear g1
  have oA9 : m9 (A) = (11, 0, sk_F [.inr (.inr (some (A + 1))), .inr (.inr (some (A + 3))), .inr (.inr (some (A + 6))), .inr (.inr none), .inr (.inr none), .inr (.inr none), .inr (.inr none), .inr (.inr none), .inr (.inr none), .inr (.inr none), .inr (.inr none), .inr (.inr none), .inr (.inr none), .inr (.inr none), .inr (.inr none), .inl 0, .inr (.inl 0)]) := by
    refine (g2 _ (by omega)).trans ?_
    simp (disch := omega) only [va_up_ne, va_up_self, oA6]
  have hq9 : ∀ q, q < A → m9 q = m0 q := by
    intro q hq
    refine (g2 _ (by omega)).trans ?_
    simp (disch := omega) only [va_up_ne, va_up_self]
    exact hq6 q hq
  have H9 : ∀ k, 1 ≤ k → k < 22 → m9 (A + k) = x0 A k := by
    intro k k0 k1
    by_cases hk0 : k < 9
    · refine (g2 _ (by omega)).trans ?_
      simp (disch := omega) only [va_up_ne, va_up_self]
      exact H6 k k0 hk0
    · have hk : k = 9 ∨ k = 10 ∨ k = 11 ∨ k = 12 ∨ k = 13 ∨ k = 14 ∨ k = 15 ∨ k = 16 ∨ k = 17 ∨ k = 18 ∨ k = 19 ∨ k = 20 ∨ k = 21 := by omega
      rcases hk with rfl | rfl | rfl | rfl | rfl | rfl | rfl | rfl | rfl | rfl | rfl | rfl | rfl
      · exact g3
      · exact g4 10 (by omega) (by omega)
      · exact g4 11 (by omega) (by omega)
      · exact g4 12 (by omega) (by omega)
      · exact g4 13 (by omega) (by omega)
      · exact g4 14 (by omega) (by omega)
      · exact g4 15 (by omega) (by omega)
      · exact g4 16 (by omega) (by omega)
      · exact g4 17 (by omega) (by omega)
      · exact g4 18 (by omega) (by omega)
      · exact g4 19 (by omega) (by omega)
      · exact g4 20 (by omega) (by omega)
      · exact g4 21 (by omega) (by omega)
  clear g2
  simp (disch := omega) only [po_i, po_l, po_null, po_iload, po_lload, po_aload, po_istore, po_astore, po_iinc, po_iadd, po_isub, po_imul, po_ineg, po_iand, po_ior, po_ishl, po_ishr, po_iushr, po_idiv, po_irem, po_dup, po_dup2, po_pop, po_ifeq, po_ifne, po_iflt, po_ifge, po_ifgt, po_ifle, po_iceq, po_icne, po_iclt, po_icge, po_icgt, po_icle, po_ifnull, po_ifnull1, po_ret, po_iret, po_zret, po_lret, po_aret, po_getf, po_puti, po_putz, po_putl, po_puta, po_iaload, po_iastore, po_alen, po_baload, po_bastore, po_laload, po_lastore, po_aaload, po_aastore, po_invB, po_stcB, po_stcB0, po_iniB, po_new, po_newa, po_obj, po_ladd, po_lsub, po_lmul, po_ldiv, po_lrem, po_land, po_lor, po_lshl, po_lushr, po_i2l, po_l2i, po_i2c, po_lcmp, po_lstore, po_tsw, po_gets, po_max, po_min, po_maxl, po_minl, po_acopy, po_ixor, po_lds, po_slen, po_sidx, po_invT, po_stcT, po_stcT0, sk_swt, kX5_letterIn_0, kX5_handIn_0, kX5_strengthIn_0, kX5_weakened_0, kX5_codeAt_0, kX5_put_0, kX7_isSkin_0, kX7_wide_0, kX7_rows_0, kX7_legible_0, kX7_coinsAtFirst_0, kX7_cells_0, kX7_spots_0, kX7_hasCell_0, kX7_hasRow_0, kX7_hasHand_0, kX7_ofHand_0, kX7_firstOf_0, kX7_rowOf_0, kX7_placeOf_0, kX10_isLetter_0, kX10_signAt_0, kX8_writingAt_0, kX8_lawThatHolds_0, kX8_lets_0, kX9_rewind_0, kX9_step_0, kX9_stepBack_0, kX9_cut_0, kX3_clear_0, kX3_add_0, kX6_judge_0, kX6_swap_0, kX1_push_0, kX1_pop_0, kX0_forget_0, kX11_refuse_0, kX11_draw_0, kX12_in_0, kX12_has_0, kX12_here_0, kX12_bad_0, kX12_isDigit_0, kX12_isSign_0, kX12_isInk_0, kX12_of_0, kX12_setOf_0, kX12_isCell_0, kX12_isHand_0, kX12_isRow_0, kX12_isWriting_0, kX12_isLegible_0, kX12_signOf_0, kX12_areYears_0, kX12_isRefused_0, kX12_draw_0, sk_nth, sk_set, sk_lok, sk_isL, sk_one, sk_pop, sk_wt, sk_cat, sk_ent, sk_pad, sk_tl_n, sk_tl_s, List.length_cons, List.length_nil, true_and, and_true, Bool.not_false, sk_F_at, Option.getD_some, sk_w_id, sk_I_at, sk_isI, false_implies, true_implies, forall_const, ne_eq, not_true_eq_false, not_false_eq_true, implies_true, true_or, or_true, va_up_self, va_up_ne, va_up_up, sk_I_up, oA9, sk_Fu0, sk_Fu1, sk_Fu2, sk_Fu3, sk_Fu4, sk_Fu5, sk_Fu6, sk_Fu7, sk_Fu8, sk_Fu9, sk_Fu10, sk_Fu11, sk_Fu12, sk_Fu13, sk_Fu14, sk_Fu15, sk_Fu16, Nat.add_assoc, Nat.reduceAdd]
  and_intros <;> intros <;> and_intros <;> intros <;> and_intros <;> intros <;> and_intros <;> intros <;> and_intros <;> intros <;> and_intros <;> intros <;> and_intros <;> intros <;> and_intros <;> intros <;> and_intros <;> intros <;> and_intros <;> intros <;> and_intros <;> intros <;> and_intros <;> intros <;> and_intros <;> try first | omega | rfl | assumption
  refine c_pgInit (by omega) (by omega) (by omega) (va_up_self _ _ _) (by simp only []; omega) (fun M2 g1 g2 g3 => ?_)
  obtain ⟨n2, m22⟩ := M2
  have g1' : n2 = A + 25 := by have := g1; simp only [] at this; omega
  subst g1'
  clear g1
  have oA22 : m22 (A) = (11, 0, sk_F [.inr (.inr (some (A + 1))), .inr (.inr (some (A + 3))), .inr (.inr (some (A + 6))), .inr (.inr (some (A + 9))), .inr (.inr none), .inr (.inr none), .inr (.inr none), .inr (.inr none), .inr (.inr none), .inr (.inr none), .inr (.inr none), .inr (.inr none), .inr (.inr none), .inr (.inr none), .inr (.inr none), .inl 0, .inr (.inl 0)]) := by
    refine (g2 _ (by omega) (by simp only []; omega) (by simp only []; omega)).trans ?_
    simp (disch := omega) only [va_up_ne, va_up_self, oA9]
  have hq22 : ∀ q, q < A → m22 q = m0 q := by
    intro q hq
    refine (g2 _ (by omega) (by simp only []; omega) (by simp only []; omega)).trans ?_
    simp (disch := omega) only [va_up_ne, va_up_self]
    exact hq9 q hq
  have H22 : ∀ k, 1 ≤ k → k < 25 → m22 (A + k) = x0 A k := by
    intro k k0 k1
    by_cases hk0 : k < 22
    · refine (g2 _ (by omega) (by simp only []; omega) (by simp only []; omega)).trans ?_
      simp (disch := omega) only [va_up_ne, va_up_self]
      exact H9 k k0 hk0
    · have hk : k = 22 ∨ k = 23 ∨ k = 24 := by omega
      rcases hk with rfl | rfl | rfl
      · exact g3.1
      · exact g3.2.1
      · exact g3.2.2
  clear g2
  simp (disch := omega) only [po_i, po_l, po_null, po_iload, po_lload, po_aload, po_istore, po_astore, po_iinc, po_iadd, po_isub, po_imul, po_ineg, po_iand, po_ior, po_ishl, po_ishr, po_iushr, po_idiv, po_irem, po_dup, po_dup2, po_pop, po_ifeq, po_ifne, po_iflt, po_ifge, po_ifgt, po_ifle, po_iceq, po_icne, po_iclt, po_icge, po_icgt, po_icle, po_ifnull, po_ifnull1, po_ret, po_iret, po_zret, po_lret, po_aret, po_getf, po_puti, po_putz, po_putl, po_puta, po_iaload, po_iastore, po_alen, po_baload, po_bastore, po_laload, po_lastore, po_aaload, po_aastore, po_invB, po_stcB, po_stcB0, po_iniB, po_new, po_newa, po_obj, po_ladd, po_lsub, po_lmul, po_ldiv, po_lrem, po_land, po_lor, po_lshl, po_lushr, po_i2l, po_l2i, po_i2c, po_lcmp, po_lstore, po_tsw, po_gets, po_max, po_min, po_maxl, po_minl, po_acopy, po_ixor, po_lds, po_slen, po_sidx, po_invT, po_stcT, po_stcT0, sk_swt, kX5_letterIn_0, kX5_handIn_0, kX5_strengthIn_0, kX5_weakened_0, kX5_codeAt_0, kX5_put_0, kX7_isSkin_0, kX7_wide_0, kX7_rows_0, kX7_legible_0, kX7_coinsAtFirst_0, kX7_cells_0, kX7_spots_0, kX7_hasCell_0, kX7_hasRow_0, kX7_hasHand_0, kX7_ofHand_0, kX7_firstOf_0, kX7_rowOf_0, kX7_placeOf_0, kX10_isLetter_0, kX10_signAt_0, kX8_writingAt_0, kX8_lawThatHolds_0, kX8_lets_0, kX9_rewind_0, kX9_step_0, kX9_stepBack_0, kX9_cut_0, kX3_clear_0, kX3_add_0, kX6_judge_0, kX6_swap_0, kX1_push_0, kX1_pop_0, kX0_forget_0, kX11_refuse_0, kX11_draw_0, kX12_in_0, kX12_has_0, kX12_here_0, kX12_bad_0, kX12_isDigit_0, kX12_isSign_0, kX12_isInk_0, kX12_of_0, kX12_setOf_0, kX12_isCell_0, kX12_isHand_0, kX12_isRow_0, kX12_isWriting_0, kX12_isLegible_0, kX12_signOf_0, kX12_areYears_0, kX12_isRefused_0, kX12_draw_0, sk_nth, sk_set, sk_lok, sk_isL, sk_one, sk_pop, sk_wt, sk_cat, sk_ent, sk_pad, sk_tl_n, sk_tl_s, List.length_cons, List.length_nil, true_and, and_true, Bool.not_false, sk_F_at, Option.getD_some, sk_w_id, sk_I_at, sk_isI, false_implies, true_implies, forall_const, ne_eq, not_true_eq_false, not_false_eq_true, implies_true, true_or, or_true, va_up_self, va_up_ne, va_up_up, sk_I_up, oA22, sk_Fu0, sk_Fu1, sk_Fu2, sk_Fu3, sk_Fu4, sk_Fu5, sk_Fu6, sk_Fu7, sk_Fu8, sk_Fu9, sk_Fu10, sk_Fu11, sk_Fu12, sk_Fu13, sk_Fu14, sk_Fu15, sk_Fu16, Nat.add_assoc, Nat.reduceAdd]
  and_intros <;> intros <;> and_intros <;> intros <;> and_intros <;> intros <;> and_intros <;> intros <;> and_intros <;> intros <;> and_intros <;> intros <;> and_intros <;> intros <;> and_intros <;> intros <;> and_intros <;> intros <;> and_intros <;> intros <;> and_intros <;> intros <;> and_intros <;> intros <;> and_intros <;> try first | omega | rfl | assumption
  refine c_pgInit (by omega) (by omega) (by omega) (va_up_self _ _ _) (by simp only []; omega) (fun M2 g1 g2 g3 => ?_)
  obtain ⟨n2, m25⟩ := M2
  have g1' : n2 = A + 28 := by have := g1; simp only [] at this; omega
  subst g1'
  clear g1
  have oA25 : m25 (A) = (11, 0, sk_F [.inr (.inr (some (A + 1))), .inr (.inr (some (A + 3))), .inr (.inr (some (A + 6))), .inr (.inr (some (A + 9))), .inr (.inr (some (A + 22))), .inr (.inr none), .inr (.inr none), .inr (.inr none), .inr (.inr none), .inr (.inr none), .inr (.inr none), .inr (.inr none), .inr (.inr none), .inr (.inr none), .inr (.inr none), .inl 0, .inr (.inl 0)]) := by
    refine (g2 _ (by omega) (by simp only []; omega) (by simp only []; omega)).trans ?_
    simp (disch := omega) only [va_up_ne, va_up_self, oA22]
  have hq25 : ∀ q, q < A → m25 q = m0 q := by
    intro q hq
    refine (g2 _ (by omega) (by simp only []; omega) (by simp only []; omega)).trans ?_
    simp (disch := omega) only [va_up_ne, va_up_self]
    exact hq22 q hq
  have H25 : ∀ k, 1 ≤ k → k < 28 → m25 (A + k) = x0 A k := by
    intro k k0 k1
    by_cases hk0 : k < 25
    · refine (g2 _ (by omega) (by simp only []; omega) (by simp only []; omega)).trans ?_
      simp (disch := omega) only [va_up_ne, va_up_self]
      exact H22 k k0 hk0
    · have hk : k = 25 ∨ k = 26 ∨ k = 27 := by omega
      rcases hk with rfl | rfl | rfl
      · exact g3.1
      · exact g3.2.1
      · exact g3.2.2
  clear g2
  simp (disch := omega) only [po_i, po_l, po_null, po_iload, po_lload, po_aload, po_istore, po_astore, po_iinc, po_iadd, po_isub, po_imul, po_ineg, po_iand, po_ior, po_ishl, po_ishr, po_iushr, po_idiv, po_irem, po_dup, po_dup2, po_pop, po_ifeq, po_ifne, po_iflt, po_ifge, po_ifgt, po_ifle, po_iceq, po_icne, po_iclt, po_icge, po_icgt, po_icle, po_ifnull, po_ifnull1, po_ret, po_iret, po_zret, po_lret, po_aret, po_getf, po_puti, po_putz, po_putl, po_puta, po_iaload, po_iastore, po_alen, po_baload, po_bastore, po_laload, po_lastore, po_aaload, po_aastore, po_invB, po_stcB, po_stcB0, po_iniB, po_new, po_newa, po_obj, po_ladd, po_lsub, po_lmul, po_ldiv, po_lrem, po_land, po_lor, po_lshl, po_lushr, po_i2l, po_l2i, po_i2c, po_lcmp, po_lstore, po_tsw, po_gets, po_max, po_min, po_maxl, po_minl, po_acopy, po_ixor, po_lds, po_slen, po_sidx, po_invT, po_stcT, po_stcT0, sk_swt, kX5_letterIn_0, kX5_handIn_0, kX5_strengthIn_0, kX5_weakened_0, kX5_codeAt_0, kX5_put_0, kX7_isSkin_0, kX7_wide_0, kX7_rows_0, kX7_legible_0, kX7_coinsAtFirst_0, kX7_cells_0, kX7_spots_0, kX7_hasCell_0, kX7_hasRow_0, kX7_hasHand_0, kX7_ofHand_0, kX7_firstOf_0, kX7_rowOf_0, kX7_placeOf_0, kX10_isLetter_0, kX10_signAt_0, kX8_writingAt_0, kX8_lawThatHolds_0, kX8_lets_0, kX9_rewind_0, kX9_step_0, kX9_stepBack_0, kX9_cut_0, kX3_clear_0, kX3_add_0, kX6_judge_0, kX6_swap_0, kX1_push_0, kX1_pop_0, kX0_forget_0, kX11_refuse_0, kX11_draw_0, kX12_in_0, kX12_has_0, kX12_here_0, kX12_bad_0, kX12_isDigit_0, kX12_isSign_0, kX12_isInk_0, kX12_of_0, kX12_setOf_0, kX12_isCell_0, kX12_isHand_0, kX12_isRow_0, kX12_isWriting_0, kX12_isLegible_0, kX12_signOf_0, kX12_areYears_0, kX12_isRefused_0, kX12_draw_0, sk_nth, sk_set, sk_lok, sk_isL, sk_one, sk_pop, sk_wt, sk_cat, sk_ent, sk_pad, sk_tl_n, sk_tl_s, List.length_cons, List.length_nil, true_and, and_true, Bool.not_false, sk_F_at, Option.getD_some, sk_w_id, sk_I_at, sk_isI, false_implies, true_implies, forall_const, ne_eq, not_true_eq_false, not_false_eq_true, implies_true, true_or, or_true, va_up_self, va_up_ne, va_up_up, sk_I_up, oA25, sk_Fu0, sk_Fu1, sk_Fu2, sk_Fu3, sk_Fu4, sk_Fu5, sk_Fu6, sk_Fu7, sk_Fu8, sk_Fu9, sk_Fu10, sk_Fu11, sk_Fu12, sk_Fu13, sk_Fu14, sk_Fu15, sk_Fu16, Nat.add_assoc, Nat.reduceAdd]
  and_intros <;> intros <;> and_intros <;> intros <;> and_intros <;> intros <;> and_intros <;> intros <;> and_intros <;> intros <;> and_intros <;> intros <;> and_intros <;> intros <;> and_intros <;> intros <;> and_intros <;> intros <;> and_intros <;> intros <;> and_intros <;> intros <;> and_intros <;> intros <;> and_intros <;> try first | omega | rfl | assumption
  refine c_logInit (by omega) (by omega) (by omega) (va_up_self _ _ _) rfl (fun M2 g1 g2 g3 => ?_)
  obtain ⟨n2, m28⟩ := M2
  have g1' : n2 = A + 30 := by have := g1; simp only [] at this; omega
  subst g1'
  clear g1
  have oA28 : m28 (A) = (11, 0, sk_F [.inr (.inr (some (A + 1))), .inr (.inr (some (A + 3))), .inr (.inr (some (A + 6))), .inr (.inr (some (A + 9))), .inr (.inr (some (A + 22))), .inr (.inr (some (A + 25))), .inr (.inr none), .inr (.inr none), .inr (.inr none), .inr (.inr none), .inr (.inr none), .inr (.inr none), .inr (.inr none), .inr (.inr none), .inr (.inr none), .inl 0, .inr (.inl 0)]) := by
    refine (g2 _ (by omega) (Or.inl (by simp only []; omega))).trans ?_
    simp (disch := omega) only [va_up_ne, va_up_self, oA25]
  have hq28 : ∀ q, q < A → m28 q = m0 q := by
    intro q hq
    refine (g2 _ (by omega) (Or.inl (by simp only []; omega))).trans ?_
    simp (disch := omega) only [va_up_ne, va_up_self]
    exact hq25 q hq
  have H28 : ∀ k, 1 ≤ k → k < 30 → m28 (A + k) = x0 A k := by
    intro k k0 k1
    by_cases hk0 : k < 28
    · refine (g2 _ (by omega) (Or.inl (by simp only []; omega))).trans ?_
      simp (disch := omega) only [va_up_ne, va_up_self]
      exact H25 k k0 hk0
    · have hk : k = 28 ∨ k = 29 := by omega
      rcases hk with rfl | rfl
      · exact g3.1
      · exact g3.2
  clear g2
  simp (disch := omega) only [po_i, po_l, po_null, po_iload, po_lload, po_aload, po_istore, po_astore, po_iinc, po_iadd, po_isub, po_imul, po_ineg, po_iand, po_ior, po_ishl, po_ishr, po_iushr, po_idiv, po_irem, po_dup, po_dup2, po_pop, po_ifeq, po_ifne, po_iflt, po_ifge, po_ifgt, po_ifle, po_iceq, po_icne, po_iclt, po_icge, po_icgt, po_icle, po_ifnull, po_ifnull1, po_ret, po_iret, po_zret, po_lret, po_aret, po_getf, po_puti, po_putz, po_putl, po_puta, po_iaload, po_iastore, po_alen, po_baload, po_bastore, po_laload, po_lastore, po_aaload, po_aastore, po_invB, po_stcB, po_stcB0, po_iniB, po_new, po_newa, po_obj, po_ladd, po_lsub, po_lmul, po_ldiv, po_lrem, po_land, po_lor, po_lshl, po_lushr, po_i2l, po_l2i, po_i2c, po_lcmp, po_lstore, po_tsw, po_gets, po_max, po_min, po_maxl, po_minl, po_acopy, po_ixor, po_lds, po_slen, po_sidx, po_invT, po_stcT, po_stcT0, sk_swt, kX5_letterIn_0, kX5_handIn_0, kX5_strengthIn_0, kX5_weakened_0, kX5_codeAt_0, kX5_put_0, kX7_isSkin_0, kX7_wide_0, kX7_rows_0, kX7_legible_0, kX7_coinsAtFirst_0, kX7_cells_0, kX7_spots_0, kX7_hasCell_0, kX7_hasRow_0, kX7_hasHand_0, kX7_ofHand_0, kX7_firstOf_0, kX7_rowOf_0, kX7_placeOf_0, kX10_isLetter_0, kX10_signAt_0, kX8_writingAt_0, kX8_lawThatHolds_0, kX8_lets_0, kX9_rewind_0, kX9_step_0, kX9_stepBack_0, kX9_cut_0, kX3_clear_0, kX3_add_0, kX6_judge_0, kX6_swap_0, kX1_push_0, kX1_pop_0, kX0_forget_0, kX11_refuse_0, kX11_draw_0, kX12_in_0, kX12_has_0, kX12_here_0, kX12_bad_0, kX12_isDigit_0, kX12_isSign_0, kX12_isInk_0, kX12_of_0, kX12_setOf_0, kX12_isCell_0, kX12_isHand_0, kX12_isRow_0, kX12_isWriting_0, kX12_isLegible_0, kX12_signOf_0, kX12_areYears_0, kX12_isRefused_0, kX12_draw_0, sk_nth, sk_set, sk_lok, sk_isL, sk_one, sk_pop, sk_wt, sk_cat, sk_ent, sk_pad, sk_tl_n, sk_tl_s, List.length_cons, List.length_nil, true_and, and_true, Bool.not_false, sk_F_at, Option.getD_some, sk_w_id, sk_I_at, sk_isI, false_implies, true_implies, forall_const, ne_eq, not_true_eq_false, not_false_eq_true, implies_true, true_or, or_true, va_up_self, va_up_ne, va_up_up, sk_I_up, oA28, sk_Fu0, sk_Fu1, sk_Fu2, sk_Fu3, sk_Fu4, sk_Fu5, sk_Fu6, sk_Fu7, sk_Fu8, sk_Fu9, sk_Fu10, sk_Fu11, sk_Fu12, sk_Fu13, sk_Fu14, sk_Fu15, sk_Fu16, Nat.add_assoc, Nat.reduceAdd]
  and_intros <;> intros <;> and_intros <;> intros <;> and_intros <;> intros <;> and_intros <;> intros <;> and_intros <;> intros <;> and_intros <;> intros <;> and_intros <;> intros <;> and_intros <;> intros <;> and_intros <;> intros <;> and_intros <;> intros <;> and_intros <;> intros <;> and_intros <;> intros <;> and_intros <;> try first | omega | rfl | assumption
  refine c_hiInit (A := A) (by omega) (by omega) (by omega) (va_up_self _ _ _) rfl (fun M2 g1 g2 g3 g4 => ?_)
  obtain ⟨n2, m30⟩ := M2
  have g1' : n2 = A + 37 := by have := g1; simp only [] at this; omega
  subst g1'
  clear g1
  have oA30 : m30 (A) = (11, 0, sk_F [.inr (.inr (some (A + 1))), .inr (.inr (some (A + 3))), .inr (.inr (some (A + 6))), .inr (.inr (some (A + 9))), .inr (.inr (some (A + 22))), .inr (.inr (some (A + 25))), .inr (.inr (some (A + 28))), .inr (.inr none), .inr (.inr none), .inr (.inr none), .inr (.inr none), .inr (.inr none), .inr (.inr none), .inr (.inr none), .inr (.inr none), .inl 0, .inr (.inl 0)]) := by
    refine (g2 _ (by omega)).trans ?_
    simp (disch := omega) only [va_up_ne, va_up_self, oA28]
  have hq30 : ∀ q, q < A → m30 q = m0 q := by
    intro q hq
    refine (g2 _ (by omega)).trans ?_
    simp (disch := omega) only [va_up_ne, va_up_self]
    exact hq28 q hq
  have H30 : ∀ k, 1 ≤ k → k < 37 → m30 (A + k) = x0 A k := by
    intro k k0 k1
    by_cases hk0 : k < 30
    · refine (g2 _ (by omega)).trans ?_
      simp (disch := omega) only [va_up_ne, va_up_self]
      exact H28 k k0 hk0
    · have hk : k = 30 ∨ k = 31 ∨ k = 32 ∨ k = 33 ∨ k = 34 ∨ k = 35 ∨ k = 36 := by omega
      rcases hk with rfl | rfl | rfl | rfl | rfl | rfl | rfl
      · exact g3
      · exact g4 31 (by omega) (by omega)
      · exact g4 32 (by omega) (by omega)
      · exact g4 33 (by omega) (by omega)
      · exact g4 34 (by omega) (by omega)
      · exact g4 35 (by omega) (by omega)
      · exact g4 36 (by omega) (by omega)
  clear g2
  simp (disch := omega) only [po_i, po_l, po_null, po_iload, po_lload, po_aload, po_istore, po_astore, po_iinc, po_iadd, po_isub, po_imul, po_ineg, po_iand, po_ior, po_ishl, po_ishr, po_iushr, po_idiv, po_irem, po_dup, po_dup2, po_pop, po_ifeq, po_ifne, po_iflt, po_ifge, po_ifgt, po_ifle, po_iceq, po_icne, po_iclt, po_icge, po_icgt, po_icle, po_ifnull, po_ifnull1, po_ret, po_iret, po_zret, po_lret, po_aret, po_getf, po_puti, po_putz, po_putl, po_puta, po_iaload, po_iastore, po_alen, po_baload, po_bastore, po_laload, po_lastore, po_aaload, po_aastore, po_invB, po_stcB, po_stcB0, po_iniB, po_new, po_newa, po_obj, po_ladd, po_lsub, po_lmul, po_ldiv, po_lrem, po_land, po_lor, po_lshl, po_lushr, po_i2l, po_l2i, po_i2c, po_lcmp, po_lstore, po_tsw, po_gets, po_max, po_min, po_maxl, po_minl, po_acopy, po_ixor, po_lds, po_slen, po_sidx, po_invT, po_stcT, po_stcT0, sk_swt, kX5_letterIn_0, kX5_handIn_0, kX5_strengthIn_0, kX5_weakened_0, kX5_codeAt_0, kX5_put_0, kX7_isSkin_0, kX7_wide_0, kX7_rows_0, kX7_legible_0, kX7_coinsAtFirst_0, kX7_cells_0, kX7_spots_0, kX7_hasCell_0, kX7_hasRow_0, kX7_hasHand_0, kX7_ofHand_0, kX7_firstOf_0, kX7_rowOf_0, kX7_placeOf_0, kX10_isLetter_0, kX10_signAt_0, kX8_writingAt_0, kX8_lawThatHolds_0, kX8_lets_0, kX9_rewind_0, kX9_step_0, kX9_stepBack_0, kX9_cut_0, kX3_clear_0, kX3_add_0, kX6_judge_0, kX6_swap_0, kX1_push_0, kX1_pop_0, kX0_forget_0, kX11_refuse_0, kX11_draw_0, kX12_in_0, kX12_has_0, kX12_here_0, kX12_bad_0, kX12_isDigit_0, kX12_isSign_0, kX12_isInk_0, kX12_of_0, kX12_setOf_0, kX12_isCell_0, kX12_isHand_0, kX12_isRow_0, kX12_isWriting_0, kX12_isLegible_0, kX12_signOf_0, kX12_areYears_0, kX12_isRefused_0, kX12_draw_0, sk_nth, sk_set, sk_lok, sk_isL, sk_one, sk_pop, sk_wt, sk_cat, sk_ent, sk_pad, sk_tl_n, sk_tl_s, List.length_cons, List.length_nil, true_and, and_true, Bool.not_false, sk_F_at, Option.getD_some, sk_w_id, sk_I_at, sk_isI, false_implies, true_implies, forall_const, ne_eq, not_true_eq_false, not_false_eq_true, implies_true, true_or, or_true, va_up_self, va_up_ne, va_up_up, sk_I_up, oA30, sk_Fu0, sk_Fu1, sk_Fu2, sk_Fu3, sk_Fu4, sk_Fu5, sk_Fu6, sk_Fu7, sk_Fu8, sk_Fu9, sk_Fu10, sk_Fu11, sk_Fu12, sk_Fu13, sk_Fu14, sk_Fu15, sk_Fu16, Nat.add_assoc, Nat.reduceAdd]
  and_intros <;> intros <;> and_intros <;> intros <;> and_intros <;> intros <;> and_intros <;> intros <;> and_intros <;> intros <;> and_intros <;> intros <;> and_intros <;> intros <;> and_intros <;> intros <;> and_intros <;> intros <;> and_intros <;> intros <;> and_intros <;> intros <;> and_intros <;> intros <;> and_intros <;> try first | omega | rfl | assumption
  refine c_notesInit (by omega) (by omega) (by omega) (va_up_self _ _ _) rfl (fun M2 g1 g2 g3 => ?_)
  obtain ⟨n2, m37⟩ := M2
  have g1' : n2 = A + 41 := by have := g1; simp only [] at this; omega
  subst g1'
  clear g1
  have oA37 : m37 (A) = (11, 0, sk_F [.inr (.inr (some (A + 1))), .inr (.inr (some (A + 3))), .inr (.inr (some (A + 6))), .inr (.inr (some (A + 9))), .inr (.inr (some (A + 22))), .inr (.inr (some (A + 25))), .inr (.inr (some (A + 28))), .inr (.inr (some (A + 30))), .inr (.inr none), .inr (.inr none), .inr (.inr none), .inr (.inr none), .inr (.inr none), .inr (.inr none), .inr (.inr none), .inl 0, .inr (.inl 0)]) := by
    refine (g2 _ (by omega) (Or.inl (by simp only []; omega))).trans ?_
    simp (disch := omega) only [va_up_ne, va_up_self, oA30]
  have hq37 : ∀ q, q < A → m37 q = m0 q := by
    intro q hq
    refine (g2 _ (by omega) (Or.inl (by simp only []; omega))).trans ?_
    simp (disch := omega) only [va_up_ne, va_up_self]
    exact hq30 q hq
  have H37 : ∀ k, 1 ≤ k → k < 41 → m37 (A + k) = x0 A k := by
    intro k k0 k1
    by_cases hk0 : k < 37
    · refine (g2 _ (by omega) (Or.inl (by simp only []; omega))).trans ?_
      simp (disch := omega) only [va_up_ne, va_up_self]
      exact H30 k k0 hk0
    · have hk : k = 37 ∨ k = 38 ∨ k = 39 ∨ k = 40 := by omega
      rcases hk with rfl | rfl | rfl | rfl
      · exact g3.1
      · exact g3.2.1
      · exact g3.2.2.1
      · exact g3.2.2.2
  clear g2
  simp (disch := omega) only [po_i, po_l, po_null, po_iload, po_lload, po_aload, po_istore, po_astore, po_iinc, po_iadd, po_isub, po_imul, po_ineg, po_iand, po_ior, po_ishl, po_ishr, po_iushr, po_idiv, po_irem, po_dup, po_dup2, po_pop, po_ifeq, po_ifne, po_iflt, po_ifge, po_ifgt, po_ifle, po_iceq, po_icne, po_iclt, po_icge, po_icgt, po_icle, po_ifnull, po_ifnull1, po_ret, po_iret, po_zret, po_lret, po_aret, po_getf, po_puti, po_putz, po_putl, po_puta, po_iaload, po_iastore, po_alen, po_baload, po_bastore, po_laload, po_lastore, po_aaload, po_aastore, po_invB, po_stcB, po_stcB0, po_iniB, po_new, po_newa, po_obj, po_ladd, po_lsub, po_lmul, po_ldiv, po_lrem, po_land, po_lor, po_lshl, po_lushr, po_i2l, po_l2i, po_i2c, po_lcmp, po_lstore, po_tsw, po_gets, po_max, po_min, po_maxl, po_minl, po_acopy, po_ixor, po_lds, po_slen, po_sidx, po_invT, po_stcT, po_stcT0, sk_swt, kX5_letterIn_0, kX5_handIn_0, kX5_strengthIn_0, kX5_weakened_0, kX5_codeAt_0, kX5_put_0, kX7_isSkin_0, kX7_wide_0, kX7_rows_0, kX7_legible_0, kX7_coinsAtFirst_0, kX7_cells_0, kX7_spots_0, kX7_hasCell_0, kX7_hasRow_0, kX7_hasHand_0, kX7_ofHand_0, kX7_firstOf_0, kX7_rowOf_0, kX7_placeOf_0, kX10_isLetter_0, kX10_signAt_0, kX8_writingAt_0, kX8_lawThatHolds_0, kX8_lets_0, kX9_rewind_0, kX9_step_0, kX9_stepBack_0, kX9_cut_0, kX3_clear_0, kX3_add_0, kX6_judge_0, kX6_swap_0, kX1_push_0, kX1_pop_0, kX0_forget_0, kX11_refuse_0, kX11_draw_0, kX12_in_0, kX12_has_0, kX12_here_0, kX12_bad_0, kX12_isDigit_0, kX12_isSign_0, kX12_isInk_0, kX12_of_0, kX12_setOf_0, kX12_isCell_0, kX12_isHand_0, kX12_isRow_0, kX12_isWriting_0, kX12_isLegible_0, kX12_signOf_0, kX12_areYears_0, kX12_isRefused_0, kX12_draw_0, sk_nth, sk_set, sk_lok, sk_isL, sk_one, sk_pop, sk_wt, sk_cat, sk_ent, sk_pad, sk_tl_n, sk_tl_s, List.length_cons, List.length_nil, true_and, and_true, Bool.not_false, sk_F_at, Option.getD_some, sk_w_id, sk_I_at, sk_isI, false_implies, true_implies, forall_const, ne_eq, not_true_eq_false, not_false_eq_true, implies_true, true_or, or_true, va_up_self, va_up_ne, va_up_up, sk_I_up, oA37, sk_Fu0, sk_Fu1, sk_Fu2, sk_Fu3, sk_Fu4, sk_Fu5, sk_Fu6, sk_Fu7, sk_Fu8, sk_Fu9, sk_Fu10, sk_Fu11, sk_Fu12, sk_Fu13, sk_Fu14, sk_Fu15, sk_Fu16, Nat.add_assoc, Nat.reduceAdd]
  and_intros <;> intros <;> and_intros <;> intros <;> and_intros <;> intros <;> and_intros <;> intros <;> and_intros <;> intros <;> and_intros <;> intros <;> and_intros <;> intros <;> and_intros <;> intros <;> and_intros <;> intros <;> and_intros <;> intros <;> and_intros <;> intros <;> and_intros <;> intros <;> and_intros <;> try first | omega | rfl | assumption
  refine c_lossInit (by omega) (by omega) (by omega) (va_up_self _ _ _) rfl (fun M2 g1 g2 g3 => ?_)
  obtain ⟨n2, m41⟩ := M2
  have g1' : n2 = A + 46 := by have := g1; simp only [] at this; omega
  subst g1'
  clear g1
  have oA41 : m41 (A) = (11, 0, sk_F [.inr (.inr (some (A + 1))), .inr (.inr (some (A + 3))), .inr (.inr (some (A + 6))), .inr (.inr (some (A + 9))), .inr (.inr (some (A + 22))), .inr (.inr (some (A + 25))), .inr (.inr (some (A + 28))), .inr (.inr (some (A + 30))), .inr (.inr (some (A + 37))), .inr (.inr none), .inr (.inr none), .inr (.inr none), .inr (.inr none), .inr (.inr none), .inr (.inr none), .inl 0, .inr (.inl 0)]) := by
    refine (g2 _ (by omega) (Or.inl (by simp only []; omega))).trans ?_
    simp (disch := omega) only [va_up_ne, va_up_self, oA37]
  have hq41 : ∀ q, q < A → m41 q = m0 q := by
    intro q hq
    refine (g2 _ (by omega) (Or.inl (by simp only []; omega))).trans ?_
    simp (disch := omega) only [va_up_ne, va_up_self]
    exact hq37 q hq
  have H41 : ∀ k, 1 ≤ k → k < 46 → m41 (A + k) = x0 A k := by
    intro k k0 k1
    by_cases hk0 : k < 41
    · refine (g2 _ (by omega) (Or.inl (by simp only []; omega))).trans ?_
      simp (disch := omega) only [va_up_ne, va_up_self]
      exact H37 k k0 hk0
    · have hk : k = 41 ∨ k = 42 ∨ k = 43 ∨ k = 44 ∨ k = 45 := by omega
      rcases hk with rfl | rfl | rfl | rfl | rfl
      · exact g3.1
      · exact g3.2.1
      · exact g3.2.2.1
      · exact g3.2.2.2.1
      · exact g3.2.2.2.2
  clear g2
  simp (disch := omega) only [po_i, po_l, po_null, po_iload, po_lload, po_aload, po_istore, po_astore, po_iinc, po_iadd, po_isub, po_imul, po_ineg, po_iand, po_ior, po_ishl, po_ishr, po_iushr, po_idiv, po_irem, po_dup, po_dup2, po_pop, po_ifeq, po_ifne, po_iflt, po_ifge, po_ifgt, po_ifle, po_iceq, po_icne, po_iclt, po_icge, po_icgt, po_icle, po_ifnull, po_ifnull1, po_ret, po_iret, po_zret, po_lret, po_aret, po_getf, po_puti, po_putz, po_putl, po_puta, po_iaload, po_iastore, po_alen, po_baload, po_bastore, po_laload, po_lastore, po_aaload, po_aastore, po_invB, po_stcB, po_stcB0, po_iniB, po_new, po_newa, po_obj, po_ladd, po_lsub, po_lmul, po_ldiv, po_lrem, po_land, po_lor, po_lshl, po_lushr, po_i2l, po_l2i, po_i2c, po_lcmp, po_lstore, po_tsw, po_gets, po_max, po_min, po_maxl, po_minl, po_acopy, po_ixor, po_lds, po_slen, po_sidx, po_invT, po_stcT, po_stcT0, sk_swt, kX5_letterIn_0, kX5_handIn_0, kX5_strengthIn_0, kX5_weakened_0, kX5_codeAt_0, kX5_put_0, kX7_isSkin_0, kX7_wide_0, kX7_rows_0, kX7_legible_0, kX7_coinsAtFirst_0, kX7_cells_0, kX7_spots_0, kX7_hasCell_0, kX7_hasRow_0, kX7_hasHand_0, kX7_ofHand_0, kX7_firstOf_0, kX7_rowOf_0, kX7_placeOf_0, kX10_isLetter_0, kX10_signAt_0, kX8_writingAt_0, kX8_lawThatHolds_0, kX8_lets_0, kX9_rewind_0, kX9_step_0, kX9_stepBack_0, kX9_cut_0, kX3_clear_0, kX3_add_0, kX6_judge_0, kX6_swap_0, kX1_push_0, kX1_pop_0, kX0_forget_0, kX11_refuse_0, kX11_draw_0, kX12_in_0, kX12_has_0, kX12_here_0, kX12_bad_0, kX12_isDigit_0, kX12_isSign_0, kX12_isInk_0, kX12_of_0, kX12_setOf_0, kX12_isCell_0, kX12_isHand_0, kX12_isRow_0, kX12_isWriting_0, kX12_isLegible_0, kX12_signOf_0, kX12_areYears_0, kX12_isRefused_0, kX12_draw_0, sk_nth, sk_set, sk_lok, sk_isL, sk_one, sk_pop, sk_wt, sk_cat, sk_ent, sk_pad, sk_tl_n, sk_tl_s, List.length_cons, List.length_nil, true_and, and_true, Bool.not_false, sk_F_at, Option.getD_some, sk_w_id, sk_I_at, sk_isI, false_implies, true_implies, forall_const, ne_eq, not_true_eq_false, not_false_eq_true, implies_true, true_or, or_true, va_up_self, va_up_ne, va_up_up, sk_I_up, oA41, sk_Fu0, sk_Fu1, sk_Fu2, sk_Fu3, sk_Fu4, sk_Fu5, sk_Fu6, sk_Fu7, sk_Fu8, sk_Fu9, sk_Fu10, sk_Fu11, sk_Fu12, sk_Fu13, sk_Fu14, sk_Fu15, sk_Fu16, Nat.add_assoc, Nat.reduceAdd]
  and_intros <;> intros <;> and_intros <;> intros <;> and_intros <;> intros <;> and_intros <;> intros <;> and_intros <;> intros <;> and_intros <;> intros <;> and_intros <;> intros <;> and_intros <;> intros <;> and_intros <;> intros <;> and_intros <;> intros <;> and_intros <;> intros <;> and_intros <;> intros <;> and_intros <;> try first | omega | rfl | assumption
  refine c_rankInit (by omega) (by omega) (by omega) (va_up_self _ _ _) rfl (fun M2 g1 g2 g3 => ?_)
  obtain ⟨n2, m46⟩ := M2
  have g1' : n2 = A + 49 := by have := g1; simp only [] at this; omega
  subst g1'
  clear g1
  have oA46 : m46 (A) = (11, 0, sk_F [.inr (.inr (some (A + 1))), .inr (.inr (some (A + 3))), .inr (.inr (some (A + 6))), .inr (.inr (some (A + 9))), .inr (.inr (some (A + 22))), .inr (.inr (some (A + 25))), .inr (.inr (some (A + 28))), .inr (.inr (some (A + 30))), .inr (.inr (some (A + 37))), .inr (.inr (some (A + 41))), .inr (.inr none), .inr (.inr none), .inr (.inr none), .inr (.inr none), .inr (.inr none), .inl 0, .inr (.inl 0)]) := by
    refine (g2 _ (by omega) (Or.inl (by simp only []; omega))).trans ?_
    simp (disch := omega) only [va_up_ne, va_up_self, oA41]
  have hq46 : ∀ q, q < A → m46 q = m0 q := by
    intro q hq
    refine (g2 _ (by omega) (Or.inl (by simp only []; omega))).trans ?_
    simp (disch := omega) only [va_up_ne, va_up_self]
    exact hq41 q hq
  have H46 : ∀ k, 1 ≤ k → k < 49 → m46 (A + k) = x0 A k := by
    intro k k0 k1
    by_cases hk0 : k < 46
    · refine (g2 _ (by omega) (Or.inl (by simp only []; omega))).trans ?_
      simp (disch := omega) only [va_up_ne, va_up_self]
      exact H41 k k0 hk0
    · have hk : k = 46 ∨ k = 47 ∨ k = 48 := by omega
      rcases hk with rfl | rfl | rfl
      · exact g3.1
      · exact g3.2.1
      · exact g3.2.2
  clear g2
  simp (disch := omega) only [po_i, po_l, po_null, po_iload, po_lload, po_aload, po_istore, po_astore, po_iinc, po_iadd, po_isub, po_imul, po_ineg, po_iand, po_ior, po_ishl, po_ishr, po_iushr, po_idiv, po_irem, po_dup, po_dup2, po_pop, po_ifeq, po_ifne, po_iflt, po_ifge, po_ifgt, po_ifle, po_iceq, po_icne, po_iclt, po_icge, po_icgt, po_icle, po_ifnull, po_ifnull1, po_ret, po_iret, po_zret, po_lret, po_aret, po_getf, po_puti, po_putz, po_putl, po_puta, po_iaload, po_iastore, po_alen, po_baload, po_bastore, po_laload, po_lastore, po_aaload, po_aastore, po_invB, po_stcB, po_stcB0, po_iniB, po_new, po_newa, po_obj, po_ladd, po_lsub, po_lmul, po_ldiv, po_lrem, po_land, po_lor, po_lshl, po_lushr, po_i2l, po_l2i, po_i2c, po_lcmp, po_lstore, po_tsw, po_gets, po_max, po_min, po_maxl, po_minl, po_acopy, po_ixor, po_lds, po_slen, po_sidx, po_invT, po_stcT, po_stcT0, sk_swt, kX5_letterIn_0, kX5_handIn_0, kX5_strengthIn_0, kX5_weakened_0, kX5_codeAt_0, kX5_put_0, kX7_isSkin_0, kX7_wide_0, kX7_rows_0, kX7_legible_0, kX7_coinsAtFirst_0, kX7_cells_0, kX7_spots_0, kX7_hasCell_0, kX7_hasRow_0, kX7_hasHand_0, kX7_ofHand_0, kX7_firstOf_0, kX7_rowOf_0, kX7_placeOf_0, kX10_isLetter_0, kX10_signAt_0, kX8_writingAt_0, kX8_lawThatHolds_0, kX8_lets_0, kX9_rewind_0, kX9_step_0, kX9_stepBack_0, kX9_cut_0, kX3_clear_0, kX3_add_0, kX6_judge_0, kX6_swap_0, kX1_push_0, kX1_pop_0, kX0_forget_0, kX11_refuse_0, kX11_draw_0, kX12_in_0, kX12_has_0, kX12_here_0, kX12_bad_0, kX12_isDigit_0, kX12_isSign_0, kX12_isInk_0, kX12_of_0, kX12_setOf_0, kX12_isCell_0, kX12_isHand_0, kX12_isRow_0, kX12_isWriting_0, kX12_isLegible_0, kX12_signOf_0, kX12_areYears_0, kX12_isRefused_0, kX12_draw_0, sk_nth, sk_set, sk_lok, sk_isL, sk_one, sk_pop, sk_wt, sk_cat, sk_ent, sk_pad, sk_tl_n, sk_tl_s, List.length_cons, List.length_nil, true_and, and_true, Bool.not_false, sk_F_at, Option.getD_some, sk_w_id, sk_I_at, sk_isI, false_implies, true_implies, forall_const, ne_eq, not_true_eq_false, not_false_eq_true, implies_true, true_or, or_true, va_up_self, va_up_ne, va_up_up, sk_I_up, oA46, sk_Fu0, sk_Fu1, sk_Fu2, sk_Fu3, sk_Fu4, sk_Fu5, sk_Fu6, sk_Fu7, sk_Fu8, sk_Fu9, sk_Fu10, sk_Fu11, sk_Fu12, sk_Fu13, sk_Fu14, sk_Fu15, sk_Fu16, Nat.add_assoc, Nat.reduceAdd]
  and_intros <;> intros <;> and_intros <;> intros <;> and_intros <;> intros <;> and_intros <;> intros <;> and_intros <;> intros <;> and_intros <;> intros <;> and_intros <;> intros <;> and_intros <;> intros <;> and_intros <;> intros <;> and_intros <;> intros <;> and_intros <;> intros <;> and_intros <;> intros <;> and_intros <;> try first | omega | rfl | assumption
  refine hQ _ rfl (fun q hq => ?_) ?_ (fun k k0 k1 => ?_)
  · simp (disch := omega) only [va_up_ne, va_up_self]
    exact hq46 q hq
  · simp (disch := omega) only [va_up_ne, va_up_self] <;> rfl
  · by_cases hk0 : k < 49
    · simp (disch := omega) only [va_up_ne, va_up_self]
      exact H46 k k0 hk0
    · have hk : k = 49 ∨ k = 50 ∨ k = 51 ∨ k = 52 := by omega
      rcases hk with rfl | rfl | rfl | rfl
      · simp (disch := omega) only [va_up_ne, va_up_self] <;> rfl
      · simp (disch := omega) only [va_up_ne, va_up_self] <;> rfl
      · simp (disch := omega) only [va_up_ne, va_up_self] <;> rfl
      · simp (disch := omega) only [va_up_ne, va_up_self] <;> rfl
end XINIT
