/-! ===== laws: what the class answers ===== -/
section WORTH
variable {g : sk_G} {d ck sk : Nat} {M M0 : sk_M} {Q : sk_P} {a sa la ka : Nat} {len top : Int} {st lf kk le : Int → Int} {stk stk2 : List Int}
theorem lv_step_w {w : Int} {s t : List Int} (h : lv_step le w s = some t) : 0 ≤ w ∧ w < 160000 ∧ w % 16 ≠ 12 ∧ w % 16 ≠ 13 := by
  unfold lv_step at h
  split at h
  · split at h
    · omega
    · simp at h
  · split at h
    · split at h
      · omega
      · simp at h
    · split at h
      · split at h
        · split at h
          · omega
          · simp at h
        · simp at h
      · split at h
        · omega
        · simp at h
/-- the locals of worth -/
def lz_L (a : Nat) (x1 x2 x3 x4 x5 x6 p : Int) : List (Option sk_V) := [some (.inr (.inr (some a))), some (.inl x1), some (.inl x2), some (.inl x3), some (.inl x4), some (.inl x5), some (.inl x6), some (.inl p), none, none]
theorem lz_seg {x1 x2 x3 x4 x5 x6 : Int} (hd : 8 ≤ d) (hle : ∀ j, 0 ≤ j → j < 6 → lf j = le j ∧ lb (le j)) (hl : len ≤ 240) : ∀ (cs : List Int) (p : Int) (stk stk2 : List Int) (kk : Int → Int) (M : sk_M), 0 ≤ p → p + cs.length ≤ len → sg st p cs → lws M0 M a sa la ka len stk.length st lf kk → lk kk stk → stk.length ≤ 32 → lbs stk → lv_run le cs stk = some stk2 → (∀ M' kk', lws M0 M' a sa la ka len stk2.length st lf kk' → lk kk' stk2 → stk2.length ≤ 32 → lbs stk2 → sk_B (g, d, ck, sk, xX1_worth, Q) 53 (lz_L a x1 x2 x3 x4 x5 x6 (p + cs.length)) [] M') → sk_B (g, d, ck, sk, xX1_worth, Q) 53 (lz_L a x1 x2 x3 x4 x5 x6 p) [] M
  | [], p, stk, stk2, kk, M, p0, p1, hg, h, hk, hs, hb, hr, hQ => by
    simp only [lv_run] at hr
    cases hr
    have := hQ M kk h hk hs hb
    simpa using this
  | w :: r, p, stk, stk2, kk, M, p0, p1, hg, h, hk, hs, hb, hr, hQ => by
    simp only [lv_run] at hr
    cases hw : lv_step le w stk with
    | none => rw [hw] at hr; simp at hr
    | some s =>
      rw [hw] at hr
      simp only [List.length_cons] at p1
      push_cast at p1
      obtain ⟨hg1, hg2⟩ := hg
      obtain ⟨w0, w1, w12, w13⟩ := lv_step_w hw
      have q1 := h.1.1
      have q2 := h.1.2.1
      unfold lz_L
      refine tX1_worth_53 _ _ _ ?_
      simp (disch := omega) only [kX1_worth_53, po_i, po_l, po_null, po_iload, po_lload, po_aload, po_istore, po_astore, po_iinc, po_iadd, po_isub, po_imul, po_ineg, po_iand, po_ior, po_ishl, po_ishr, po_iushr, po_idiv, po_irem, po_dup, po_dup2, po_pop, po_ifeq, po_ifne, po_iflt, po_ifge, po_ifgt, po_ifle, po_iceq, po_icne, po_iclt, po_icge, po_icgt, po_icle, po_ifnull, po_ifnull1, po_ret, po_iret, po_zret, po_lret, po_aret, po_getf, po_puti, po_putz, po_putl, po_puta, po_iaload, po_iastore, po_alen, po_baload, po_bastore, po_laload, po_lastore, po_aaload, po_aastore, po_invB, po_stcB, po_stcB0, po_iniB, po_new, po_newa, po_obj, po_ladd, po_lsub, po_lmul, po_ldiv, po_lrem, po_land, po_lor, po_lshl, po_lushr, po_i2l, po_l2i, po_i2c, po_lcmp, po_lstore, po_tsw, po_gets, po_max, po_min, po_maxl, po_minl, po_acopy, po_ixor, po_lds, po_slen, po_sidx, po_invT, po_stcT, po_stcT0, sk_swt, kX5_letterIn_0, kX5_handIn_0, kX5_strengthIn_0, kX5_weakened_0, kX5_codeAt_0, kX5_put_0, kX7_isSkin_0, kX7_wide_0, kX7_rows_0, kX7_legible_0, kX7_coinsAtFirst_0, kX7_cells_0, kX7_spots_0, kX7_hasCell_0, kX7_hasRow_0, kX7_hasHand_0, kX7_ofHand_0, kX7_firstOf_0, kX7_rowOf_0, kX7_placeOf_0, kX10_isLetter_0, kX10_signAt_0, kX8_writingAt_0, kX8_lawThatHolds_0, kX8_lets_0, kX9_rewind_0, kX9_step_0, kX9_stepBack_0, kX9_cut_0, kX3_clear_0, kX3_add_0, kX6_judge_0, kX6_swap_0, kX1_push_0, kX1_pop_0, kX0_forget_0, kX11_refuse_0, kX11_draw_0, kX12_in_0, kX12_has_0, kX12_here_0, kX12_bad_0, kX12_isDigit_0, kX12_isSign_0, kX12_isInk_0, kX12_of_0, kX12_setOf_0, kX12_isCell_0, kX12_isHand_0, kX12_isRow_0, kX12_isWriting_0, kX12_isLegible_0, kX12_signOf_0, kX12_areYears_0, kX12_isRefused_0, kX12_draw_0, sk_nth, sk_set, sk_lok, sk_isL, sk_one, sk_pop, sk_wt, sk_cat, sk_ent, sk_pad, sk_tl_n, sk_tl_s, List.length_cons, List.length_nil, true_and, and_true, Bool.not_false, sk_F_at, Option.getD_some, sk_w_id, sk_I_at, sk_isI, false_implies, true_implies, forall_const, ne_eq, not_true_eq_false, not_false_eq_true, implies_true, true_or, or_true, va_up_self, va_up_ne, va_up_up, sk_I_up, q1, q2, hg1, sk_and_15, sk_shr_4]
      and_intros <;> intros <;> and_intros <;> intros <;> and_intros <;> intros <;> and_intros <;> intros <;> and_intros <;> intros <;> and_intros <;> intros <;> and_intros <;> intros <;> and_intros <;> intros <;> and_intros <;> intros <;> and_intros <;> intros <;> and_intros <;> intros <;> and_intros <;> intros <;> and_intros <;> try first | omega | rfl | assumption
      refine c_run (by omega) h hk hle hs hb hw (fun M2 kk2 h2 hk2 => ?_)
      simp (disch := omega) only [po_i, po_l, po_null, po_iload, po_lload, po_aload, po_istore, po_astore, po_iinc, po_iadd, po_isub, po_imul, po_ineg, po_iand, po_ior, po_ishl, po_ishr, po_iushr, po_idiv, po_irem, po_dup, po_dup2, po_pop, po_ifeq, po_ifne, po_iflt, po_ifge, po_ifgt, po_ifle, po_iceq, po_icne, po_iclt, po_icge, po_icgt, po_icle, po_ifnull, po_ifnull1, po_ret, po_iret, po_zret, po_lret, po_aret, po_getf, po_puti, po_putz, po_putl, po_puta, po_iaload, po_iastore, po_alen, po_baload, po_bastore, po_laload, po_lastore, po_aaload, po_aastore, po_invB, po_stcB, po_stcB0, po_iniB, po_new, po_newa, po_obj, po_ladd, po_lsub, po_lmul, po_ldiv, po_lrem, po_land, po_lor, po_lshl, po_lushr, po_i2l, po_l2i, po_i2c, po_lcmp, po_lstore, po_tsw, po_gets, po_max, po_min, po_maxl, po_minl, po_acopy, po_ixor, po_lds, po_slen, po_sidx, po_invT, po_stcT, po_stcT0, sk_swt, kX5_letterIn_0, kX5_handIn_0, kX5_strengthIn_0, kX5_weakened_0, kX5_codeAt_0, kX5_put_0, kX7_isSkin_0, kX7_wide_0, kX7_rows_0, kX7_legible_0, kX7_coinsAtFirst_0, kX7_cells_0, kX7_spots_0, kX7_hasCell_0, kX7_hasRow_0, kX7_hasHand_0, kX7_ofHand_0, kX7_firstOf_0, kX7_rowOf_0, kX7_placeOf_0, kX10_isLetter_0, kX10_signAt_0, kX8_writingAt_0, kX8_lawThatHolds_0, kX8_lets_0, kX9_rewind_0, kX9_step_0, kX9_stepBack_0, kX9_cut_0, kX3_clear_0, kX3_add_0, kX6_judge_0, kX6_swap_0, kX1_push_0, kX1_pop_0, kX0_forget_0, kX11_refuse_0, kX11_draw_0, kX12_in_0, kX12_has_0, kX12_here_0, kX12_bad_0, kX12_isDigit_0, kX12_isSign_0, kX12_isInk_0, kX12_of_0, kX12_setOf_0, kX12_isCell_0, kX12_isHand_0, kX12_isRow_0, kX12_isWriting_0, kX12_isLegible_0, kX12_signOf_0, kX12_areYears_0, kX12_isRefused_0, kX12_draw_0, sk_nth, sk_set, sk_lok, sk_isL, sk_one, sk_pop, sk_wt, sk_cat, sk_ent, sk_pad, sk_tl_n, sk_tl_s, List.length_cons, List.length_nil, true_and, and_true, Bool.not_false, sk_F_at, Option.getD_some, sk_w_id, sk_I_at, sk_isI, false_implies, true_implies, forall_const, ne_eq, not_true_eq_false, not_false_eq_true, implies_true, true_or, or_true, va_up_self, va_up_ne, va_up_up, sk_I_up]
      refine sk_drop (lz_seg (x1 := x1) (x2 := x2) (x3 := x3) (x4 := x4) (x5 := x5) (x6 := x6) hd hle hl r (p + 1) s stk2 kk2 M2 (by omega) (by omega) hg2 h2 hk2 (lv_step_len hw hs) (lbs_step (fun j j0 j1 => (hle j j0 j1).2) hb hw) hr (fun M3 kk3 h3 hk3 hs3 hb3 => ?_)) (by simp [sk_le, lz_L])
      have := hQ M3 kk3 h3 hk3 hs3 hb3
      simp only [List.length_cons] at this
      rw [show p + 1 + (r.length : Int) = p + ((r.length + 1 : Nat) : Int) by omega]
      exact this
theorem lv_v_of {cs : List Int} {v : Int} {r : List Int} (h : lv_run le cs [] = some (v :: r)) : lv_v le cs = v := by unfold lv_v; rw [h]
theorem lz_sm2 {x1 x2 x3 x4 x5 x6 : Int} (hd : 8 ≤ d) (hle : ∀ j, 0 ≤ j → j < 6 → lf j = le j ∧ lb (le j)) (hl : len ≤ 240) {cs : List Int} {p : Int} {kk : Int → Int} {M : sk_M} (p0 : 0 ≤ p) (p1 : p + cs.length + 1 ≤ len) (hg : sg st p (cs ++ [13])) (h : lws M0 M a sa la ka len 0 st lf kk) (hv : ∃ f, lv_run le cs [] = some [f]) (hQ : ∀ M' kk' t, lws M0 M' a sa la ka len t st lf kk' → Q (some (.inl (lv_v le cs))) M') : sk_B (g, d, ck, sk, xX1_worth, Q) 53 (lz_L a x1 x2 x3 x4 x5 x6 p) [] M := by
  obtain ⟨f, hv⟩ := hv
  rw [lv_v_of hv] at hQ
  obtain ⟨hg1, hg2⟩ := sg_app.mp hg
  refine lz_seg (x1 := x1) (x2 := x2) (x3 := x3) (x4 := x4) (x5 := x5) (x6 := x6) hd hle hl cs p [] [f] kk M p0 (by omega) hg1 h trivial (by simp) (fun _ hx => by simp at hx) hv (fun M2 kk2 h2 hk2 hs2 hb2 => ?_)
  have hk1 := hk2.1
  simp only [List.length_nil] at hk1
  have hg3 := hg2.1
  replace h2 : lws M0 M2 a sa la ka len 1 st lf kk2 := h2
  have hk1' : kk2 0 = f := hk1
  have q1 := h2.1.1
  have q2 := h2.1.2.1
  have q4 := h2.1.2.2.2
  obtain ⟨n1, n2, n3, n4, n5, n6⟩ := lwo_ne h2.1
  have hR := hQ _ _ 0 (lws_top (t := 0) h2)
  unfold lz_L
  refine tX1_worth_53 _ _ _ ?_
  simp (disch := omega) only [kX1_worth_53, po_i, po_l, po_null, po_iload, po_lload, po_aload, po_istore, po_astore, po_iinc, po_iadd, po_isub, po_imul, po_ineg, po_iand, po_ior, po_ishl, po_ishr, po_iushr, po_idiv, po_irem, po_dup, po_dup2, po_pop, po_ifeq, po_ifne, po_iflt, po_ifge, po_ifgt, po_ifle, po_iceq, po_icne, po_iclt, po_icge, po_icgt, po_icle, po_ifnull, po_ifnull1, po_ret, po_iret, po_zret, po_lret, po_aret, po_getf, po_puti, po_putz, po_putl, po_puta, po_iaload, po_iastore, po_alen, po_baload, po_bastore, po_laload, po_lastore, po_aaload, po_aastore, po_invB, po_stcB, po_stcB0, po_iniB, po_new, po_newa, po_obj, po_ladd, po_lsub, po_lmul, po_ldiv, po_lrem, po_land, po_lor, po_lshl, po_lushr, po_i2l, po_l2i, po_i2c, po_lcmp, po_lstore, po_tsw, po_gets, po_max, po_min, po_maxl, po_minl, po_acopy, po_ixor, po_lds, po_slen, po_sidx, po_invT, po_stcT, po_stcT0, sk_swt, kX5_letterIn_0, kX5_handIn_0, kX5_strengthIn_0, kX5_weakened_0, kX5_codeAt_0, kX5_put_0, kX7_isSkin_0, kX7_wide_0, kX7_rows_0, kX7_legible_0, kX7_coinsAtFirst_0, kX7_cells_0, kX7_spots_0, kX7_hasCell_0, kX7_hasRow_0, kX7_hasHand_0, kX7_ofHand_0, kX7_firstOf_0, kX7_rowOf_0, kX7_placeOf_0, kX10_isLetter_0, kX10_signAt_0, kX8_writingAt_0, kX8_lawThatHolds_0, kX8_lets_0, kX9_rewind_0, kX9_step_0, kX9_stepBack_0, kX9_cut_0, kX3_clear_0, kX3_add_0, kX6_judge_0, kX6_swap_0, kX1_push_0, kX1_pop_0, kX0_forget_0, kX11_refuse_0, kX11_draw_0, kX12_in_0, kX12_has_0, kX12_here_0, kX12_bad_0, kX12_isDigit_0, kX12_isSign_0, kX12_isInk_0, kX12_of_0, kX12_setOf_0, kX12_isCell_0, kX12_isHand_0, kX12_isRow_0, kX12_isWriting_0, kX12_isLegible_0, kX12_signOf_0, kX12_areYears_0, kX12_isRefused_0, kX12_draw_0, sk_nth, sk_set, sk_lok, sk_isL, sk_one, sk_pop, sk_wt, sk_cat, sk_ent, sk_pad, sk_tl_n, sk_tl_s, List.length_cons, List.length_nil, true_and, and_true, Bool.not_false, sk_F_at, Option.getD_some, sk_w_id, sk_I_at, sk_isI, false_implies, true_implies, forall_const, ne_eq, not_true_eq_false, not_false_eq_true, implies_true, true_or, or_true, va_up_self, va_up_ne, va_up_up, sk_I_up, q1, q2, q4, hg3, hk1', sk_and_15, sk_shr_4, sk_Fu4, show (1 : Int) - 1 = 0 by omega, show (13 : Int) % 16 = 13 by omega]
  and_intros <;> intros <;> and_intros <;> intros <;> and_intros <;> intros <;> and_intros <;> intros <;> and_intros <;> intros <;> and_intros <;> intros <;> and_intros <;> intros <;> and_intros <;> intros <;> and_intros <;> intros <;> and_intros <;> intros <;> and_intros <;> intros <;> and_intros <;> intros <;> and_intros <;> try first | omega | rfl | assumption
theorem lz_cl {x1 x2 x3 x4 x5 x6 : Int} (hd : 8 ≤ d) (hle : ∀ j, 0 ≤ j → j < 6 → lf j = le j ∧ lb (le j)) (hl : len ≤ 240) : ∀ (qs : List lq_C) (p : Int) (kk : Int → Int) (M : sk_M), 0 ≤ p → p + (lr_e p qs).length = len → sg st p (lr_e p qs) → (∀ q ∈ qs, lq_good q) → lws M0 M a sa la ka len 0 st lf kk → (∀ M' kk' t, lws M0 M' a sa la ka len t st lf kk' → Q (some (.inl (lw_val le qs))) M') → sk_B (g, d, ck, sk, xX1_worth, Q) 53 (lz_L a x1 x2 x3 x4 x5 x6 p) [] M
  | [], p, kk, M, p0, p1, hg, hgd, h, hQ => by
    simp only [lr_e, List.length_nil] at p1
    have q1 := h.1.1
    have hR := hQ M kk 0 h
    simp only [lw_val] at hR
    unfold lz_L
    refine tX1_worth_53 _ _ _ ?_
    simp (disch := omega) only [kX1_worth_53, po_i, po_l, po_null, po_iload, po_lload, po_aload, po_istore, po_astore, po_iinc, po_iadd, po_isub, po_imul, po_ineg, po_iand, po_ior, po_ishl, po_ishr, po_iushr, po_idiv, po_irem, po_dup, po_dup2, po_pop, po_ifeq, po_ifne, po_iflt, po_ifge, po_ifgt, po_ifle, po_iceq, po_icne, po_iclt, po_icge, po_icgt, po_icle, po_ifnull, po_ifnull1, po_ret, po_iret, po_zret, po_lret, po_aret, po_getf, po_puti, po_putz, po_putl, po_puta, po_iaload, po_iastore, po_alen, po_baload, po_bastore, po_laload, po_lastore, po_aaload, po_aastore, po_invB, po_stcB, po_stcB0, po_iniB, po_new, po_newa, po_obj, po_ladd, po_lsub, po_lmul, po_ldiv, po_lrem, po_land, po_lor, po_lshl, po_lushr, po_i2l, po_l2i, po_i2c, po_lcmp, po_lstore, po_tsw, po_gets, po_max, po_min, po_maxl, po_minl, po_acopy, po_ixor, po_lds, po_slen, po_sidx, po_invT, po_stcT, po_stcT0, sk_swt, kX5_letterIn_0, kX5_handIn_0, kX5_strengthIn_0, kX5_weakened_0, kX5_codeAt_0, kX5_put_0, kX7_isSkin_0, kX7_wide_0, kX7_rows_0, kX7_legible_0, kX7_coinsAtFirst_0, kX7_cells_0, kX7_spots_0, kX7_hasCell_0, kX7_hasRow_0, kX7_hasHand_0, kX7_ofHand_0, kX7_firstOf_0, kX7_rowOf_0, kX7_placeOf_0, kX10_isLetter_0, kX10_signAt_0, kX8_writingAt_0, kX8_lawThatHolds_0, kX8_lets_0, kX9_rewind_0, kX9_step_0, kX9_stepBack_0, kX9_cut_0, kX3_clear_0, kX3_add_0, kX6_judge_0, kX6_swap_0, kX1_push_0, kX1_pop_0, kX0_forget_0, kX11_refuse_0, kX11_draw_0, kX12_in_0, kX12_has_0, kX12_here_0, kX12_bad_0, kX12_isDigit_0, kX12_isSign_0, kX12_isInk_0, kX12_of_0, kX12_setOf_0, kX12_isCell_0, kX12_isHand_0, kX12_isRow_0, kX12_isWriting_0, kX12_isLegible_0, kX12_signOf_0, kX12_areYears_0, kX12_isRefused_0, kX12_draw_0, sk_nth, sk_set, sk_lok, sk_isL, sk_one, sk_pop, sk_wt, sk_cat, sk_ent, sk_pad, sk_tl_n, sk_tl_s, List.length_cons, List.length_nil, true_and, and_true, Bool.not_false, sk_F_at, Option.getD_some, sk_w_id, sk_I_at, sk_isI, false_implies, true_implies, forall_const, ne_eq, not_true_eq_false, not_false_eq_true, implies_true, true_or, or_true, va_up_self, va_up_ne, va_up_up, sk_I_up, q1]
    and_intros <;> intros <;> and_intros <;> intros <;> and_intros <;> intros <;> and_intros <;> intros <;> and_intros <;> intros <;> and_intros <;> intros <;> and_intros <;> intros <;> and_intros <;> intros <;> and_intros <;> intros <;> and_intros <;> intros <;> and_intros <;> intros <;> and_intros <;> intros <;> and_intros <;> try first | omega | rfl | assumption
  | q :: r, p, kk, M, p0, p1, hg, hgd, h, hQ => by
    simp only [lr_e, List.length_append] at p1 hg
    obtain ⟨hg1, hg2⟩ := sg_app.mp hg
    obtain ⟨gd1, gd2, gd3⟩ := hgd q (by simp)
    simp only [lw_val] at hQ
    by_cases hq : q.1 = true
    · unfold lq_e at hg1 hg2 p1
      rw [if_pos hq] at hg1 hg2 p1
      obtain ⟨hg3, hg4, hg5⟩ := sg_app.mp hg1
      obtain ⟨b, bb, hrun⟩ := gd2 hq le
      simp only [List.length_append, List.length_cons, List.length_nil] at p1 hg2
      refine lz_seg (x1 := x1) (x2 := x2) (x3 := x3) (x4 := x4) (x5 := x5) (x6 := x6) hd hle hl q.2.1 p [] [b] kk M p0 (by omega) hg3 h trivial (by simp) (fun _ hx => by simp at hx) hrun (fun M2 kk2 h2 hk2 hs2 hb2 => ?_)
      rw [lv_v_of hrun] at hQ
      have hk1 := hk2.1
      have hk1' : kk2 0 = b := hk1
      replace h2 : lws M0 M2 a sa la ka len 1 st lf kk2 := h2
      have q1 := h2.1.1
      have q2 := h2.1.2.1
      have q4 := h2.1.2.2.2
      obtain ⟨n1, n2, n3, n4, n5, n6⟩ := lwo_ne h2.1
      have h3 := lws_top (t := 0) h2
      unfold lv_b at bb
      have ew : (12 + 16 * (p + (q.2.1.length : Int) + 1 + q.2.2.length + 1)) % 16 = 12 := by omega
      have ew2 : (12 + 16 * (p + (q.2.1.length : Int) + 1 + q.2.2.length + 1)) / 16 = p + q.2.1.length + 1 + q.2.2.length + 1 := by omega
      unfold lz_L
      by_cases hb0 : b = 0
      · rw [if_pos ⟨hq, hb0⟩] at hQ
        have e20 : sk_max (p + q.2.1.length) (p + q.2.1.length + 1 + q.2.2.length + 1 - 1) = p + q.2.1.length + 1 + q.2.2.length := by unfold sk_max; rw [if_pos (by omega)]; omega
        refine tX1_worth_53 _ _ _ ?_
        simp (disch := omega) only [kX1_worth_53, po_i, po_l, po_null, po_iload, po_lload, po_aload, po_istore, po_astore, po_iinc, po_iadd, po_isub, po_imul, po_ineg, po_iand, po_ior, po_ishl, po_ishr, po_iushr, po_idiv, po_irem, po_dup, po_dup2, po_pop, po_ifeq, po_ifne, po_iflt, po_ifge, po_ifgt, po_ifle, po_iceq, po_icne, po_iclt, po_icge, po_icgt, po_icle, po_ifnull, po_ifnull1, po_ret, po_iret, po_zret, po_lret, po_aret, po_getf, po_puti, po_putz, po_putl, po_puta, po_iaload, po_iastore, po_alen, po_baload, po_bastore, po_laload, po_lastore, po_aaload, po_aastore, po_invB, po_stcB, po_stcB0, po_iniB, po_new, po_newa, po_obj, po_ladd, po_lsub, po_lmul, po_ldiv, po_lrem, po_land, po_lor, po_lshl, po_lushr, po_i2l, po_l2i, po_i2c, po_lcmp, po_lstore, po_tsw, po_gets, po_max, po_min, po_maxl, po_minl, po_acopy, po_ixor, po_lds, po_slen, po_sidx, po_invT, po_stcT, po_stcT0, sk_swt, kX5_letterIn_0, kX5_handIn_0, kX5_strengthIn_0, kX5_weakened_0, kX5_codeAt_0, kX5_put_0, kX7_isSkin_0, kX7_wide_0, kX7_rows_0, kX7_legible_0, kX7_coinsAtFirst_0, kX7_cells_0, kX7_spots_0, kX7_hasCell_0, kX7_hasRow_0, kX7_hasHand_0, kX7_ofHand_0, kX7_firstOf_0, kX7_rowOf_0, kX7_placeOf_0, kX10_isLetter_0, kX10_signAt_0, kX8_writingAt_0, kX8_lawThatHolds_0, kX8_lets_0, kX9_rewind_0, kX9_step_0, kX9_stepBack_0, kX9_cut_0, kX3_clear_0, kX3_add_0, kX6_judge_0, kX6_swap_0, kX1_push_0, kX1_pop_0, kX0_forget_0, kX11_refuse_0, kX11_draw_0, kX12_in_0, kX12_has_0, kX12_here_0, kX12_bad_0, kX12_isDigit_0, kX12_isSign_0, kX12_isInk_0, kX12_of_0, kX12_setOf_0, kX12_isCell_0, kX12_isHand_0, kX12_isRow_0, kX12_isWriting_0, kX12_isLegible_0, kX12_signOf_0, kX12_areYears_0, kX12_isRefused_0, kX12_draw_0, sk_nth, sk_set, sk_lok, sk_isL, sk_one, sk_pop, sk_wt, sk_cat, sk_ent, sk_pad, sk_tl_n, sk_tl_s, List.length_cons, List.length_nil, true_and, and_true, Bool.not_false, sk_F_at, Option.getD_some, sk_w_id, sk_I_at, sk_isI, false_implies, true_implies, forall_const, ne_eq, not_true_eq_false, not_false_eq_true, implies_true, true_or, or_true, va_up_self, va_up_ne, va_up_up, sk_I_up, q1, q2, q4, hg4, hk1', hb0, ew, ew2, sk_and_15, sk_shr_4, sk_Fu4, show (1 : Int) - 1 = 0 by omega, e20]
        and_intros <;> intros <;> and_intros <;> intros <;> and_intros <;> intros <;> and_intros <;> intros <;> and_intros <;> intros <;> and_intros <;> intros <;> and_intros <;> intros <;> and_intros <;> intros <;> and_intros <;> intros <;> and_intros <;> intros <;> and_intros <;> intros <;> and_intros <;> intros <;> and_intros <;> try first | omega | rfl | assumption
        have e21 : p + (q.2.1.length : Int) + 1 + q.2.2.length + 1 = p + ((q.2.1.length + (q.2.2.length + (0 + 1) + 1) : Nat) : Int) := by omega
        rw [e21]
        refine sk_drop (lz_cl (x1 := x1) (x2 := x2) (x3 := x3) (x4 := x4) (x5 := x5) (x6 := x6) hd hle hl r _ kk2 _ (by omega) (by omega) hg2 (fun q hq => hgd q (by simp [hq])) h3 hQ) (by simp [sk_le, lz_L])
      · rw [if_neg (fun e => hb0 e.2)] at hQ
        have hb1 : b = 1 := by omega
        refine tX1_worth_53 _ _ _ ?_
        simp (disch := omega) only [kX1_worth_53, po_i, po_l, po_null, po_iload, po_lload, po_aload, po_istore, po_astore, po_iinc, po_iadd, po_isub, po_imul, po_ineg, po_iand, po_ior, po_ishl, po_ishr, po_iushr, po_idiv, po_irem, po_dup, po_dup2, po_pop, po_ifeq, po_ifne, po_iflt, po_ifge, po_ifgt, po_ifle, po_iceq, po_icne, po_iclt, po_icge, po_icgt, po_icle, po_ifnull, po_ifnull1, po_ret, po_iret, po_zret, po_lret, po_aret, po_getf, po_puti, po_putz, po_putl, po_puta, po_iaload, po_iastore, po_alen, po_baload, po_bastore, po_laload, po_lastore, po_aaload, po_aastore, po_invB, po_stcB, po_stcB0, po_iniB, po_new, po_newa, po_obj, po_ladd, po_lsub, po_lmul, po_ldiv, po_lrem, po_land, po_lor, po_lshl, po_lushr, po_i2l, po_l2i, po_i2c, po_lcmp, po_lstore, po_tsw, po_gets, po_max, po_min, po_maxl, po_minl, po_acopy, po_ixor, po_lds, po_slen, po_sidx, po_invT, po_stcT, po_stcT0, sk_swt, kX5_letterIn_0, kX5_handIn_0, kX5_strengthIn_0, kX5_weakened_0, kX5_codeAt_0, kX5_put_0, kX7_isSkin_0, kX7_wide_0, kX7_rows_0, kX7_legible_0, kX7_coinsAtFirst_0, kX7_cells_0, kX7_spots_0, kX7_hasCell_0, kX7_hasRow_0, kX7_hasHand_0, kX7_ofHand_0, kX7_firstOf_0, kX7_rowOf_0, kX7_placeOf_0, kX10_isLetter_0, kX10_signAt_0, kX8_writingAt_0, kX8_lawThatHolds_0, kX8_lets_0, kX9_rewind_0, kX9_step_0, kX9_stepBack_0, kX9_cut_0, kX3_clear_0, kX3_add_0, kX6_judge_0, kX6_swap_0, kX1_push_0, kX1_pop_0, kX0_forget_0, kX11_refuse_0, kX11_draw_0, kX12_in_0, kX12_has_0, kX12_here_0, kX12_bad_0, kX12_isDigit_0, kX12_isSign_0, kX12_isInk_0, kX12_of_0, kX12_setOf_0, kX12_isCell_0, kX12_isHand_0, kX12_isRow_0, kX12_isWriting_0, kX12_isLegible_0, kX12_signOf_0, kX12_areYears_0, kX12_isRefused_0, kX12_draw_0, sk_nth, sk_set, sk_lok, sk_isL, sk_one, sk_pop, sk_wt, sk_cat, sk_ent, sk_pad, sk_tl_n, sk_tl_s, List.length_cons, List.length_nil, true_and, and_true, Bool.not_false, sk_F_at, Option.getD_some, sk_w_id, sk_I_at, sk_isI, false_implies, true_implies, forall_const, ne_eq, not_true_eq_false, not_false_eq_true, implies_true, true_or, or_true, va_up_self, va_up_ne, va_up_up, sk_I_up, q1, q2, q4, hg4, hk1', hb1, ew, ew2, sk_and_15, sk_shr_4, sk_Fu4, show (1 : Int) - 1 = 0 by omega]
        and_intros <;> intros <;> and_intros <;> intros <;> and_intros <;> intros <;> and_intros <;> intros <;> and_intros <;> intros <;> and_intros <;> intros <;> and_intros <;> intros <;> and_intros <;> intros <;> and_intros <;> intros <;> and_intros <;> intros <;> and_intros <;> intros <;> and_intros <;> intros <;> and_intros <;> try first | omega | rfl | assumption
        refine sk_drop (lz_sm2 (x1 := x1) (x2 := x2) (x3 := x3) (x4 := x4) (x5 := x5) (x6 := x6) (p := p + q.2.1.length + 1) hd hle hl (by omega) (by omega) hg5 h3 (gd1 le) hQ) (by simp [sk_le, lz_L])
    · have hq2 : q.1 = false := by simpa using hq
      rw [if_neg (fun e => hq e.1)] at hQ
      unfold lq_e at hg1 p1
      rw [if_neg hq] at hg1 p1
      simp only [List.length_append, List.length_cons, List.length_nil] at p1
      exact lz_sm2 hd hle hl p0 (by omega) hg1 h (gd1 le) hQ
end WORTH
