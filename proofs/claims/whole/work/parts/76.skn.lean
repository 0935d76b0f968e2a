/-! ===== skins: the reference reads items, the loop ===== -/
section SKN
variable {g : sk_G} {d ck sk : Nat} {M0 M : sk_M} {Q : sk_P} {B : Nat} {S0 : Nat → Int} {Y0 : Nat → Int → Int} {i hn : Int} {R H : Int → Int}
theorem m_itemsS (hd : 9 ≤ d) : ∀ (k : Nat) (i sn : Int) (v : Int → Int) (M : sk_M), (k : Int) + si_pc sn = si_n true + 1 → 1 ≤ k → si_ok true sn → 0 ≤ i → i ≤ S0 2 → sms M0 B S0 Y0 M (tp_skip (Y0 1) (S0 2) i) (-1) hn v H → ((si (Y0 1) (S0 2) true 0 k i sn v).1 = true → ∀ M', sms M0 B S0 Y0 M' (si (Y0 1) (S0 2) true 0 k i sn v).2.1 (-1) hn (si (Y0 1) (S0 2) true 0 k i sn v).2.2 H → Q none M') → ((si (Y0 1) (S0 2) true 0 k i sn v).1 = false → ∀ M' i' v', 0 ≤ i' → i' ≤ S0 2 → sms M0 B S0 Y0 M' i' (si (Y0 1) (S0 2) true 0 k i sn v).2.1 hn v' H → Q none M') → sk_B (g, d, ck, sk, xX12_items, Q) 41 [some (.inr (.inr (some B))), some (.inl 115), some (.inr (.inr (some (B + 11)))), some (.inl 0), some (.inl 4), some (.inl sn), some (.inl (si_w true (tp_ch (Y0 1) (S0 2) (tp_skip (Y0 1) (S0 2) i))))] [] M := by
  intro k
  induction k with
  | zero => intro i sn v M hk h1; omega
  | succ k ih =>
    intro i sn v M hk hk1 hsn i0 i1 h hY hN
    have hT := h.2
    have hnn := hT.2.1
    have a1 := tp_skip_ge (Y0 1) (S0 2) i
    have a2 := tp_skip_le (Y0 1) i1
    have a3 := tp_ch_in (i := tp_skip (Y0 1) (S0 2) i) hT (by omega)
    have b1 := si_w_in true (tp_ch (Y0 1) (S0 2) (tp_skip (Y0 1) (S0 2) i))
    have hw9 : tp_ch (Y0 1) (S0 2) (tp_skip (Y0 1) (S0 2) i) = -1 → si_w true (tp_ch (Y0 1) (S0 2) (tp_skip (Y0 1) (S0 2) i)) = -1 := fun e => by rw [e]; exact si_w_9 true
    have p1 := h.1.1
    simp only [si] at hY hN
    generalize hw : si_w true (tp_ch (Y0 1) (S0 2) (tp_skip (Y0 1) (S0 2) i)) = w at *
    by_cases ew : w = -1
    · rw [if_pos (Or.inl ew)] at hY
      have hR := hY rfl M h
      refine tX12_items_41 _ _ _ ?_
      simp (disch := omega) only [kX12_items_41, po_i, po_l, po_null, po_iload, po_lload, po_aload, po_istore, po_astore, po_iinc, po_iadd, po_isub, po_imul, po_ineg, po_iand, po_ior, po_ishl, po_ishr, po_iushr, po_idiv, po_irem, po_dup, po_dup2, po_pop, po_ifeq, po_ifne, po_iflt, po_ifge, po_ifgt, po_ifle, po_iceq, po_icne, po_iclt, po_icge, po_icgt, po_icle, po_ifnull, po_ifnull1, po_ret, po_iret, po_zret, po_lret, po_aret, po_getf, po_puti, po_putz, po_putl, po_puta, po_iaload, po_iastore, po_alen, po_baload, po_bastore, po_laload, po_lastore, po_aaload, po_aastore, po_invB, po_stcB, po_stcB0, po_iniB, po_new, po_newa, po_obj, po_ladd, po_lsub, po_lmul, po_ldiv, po_lrem, po_land, po_lor, po_lshl, po_lushr, po_i2l, po_l2i, po_i2c, po_lcmp, po_lstore, po_tsw, po_gets, po_max, po_min, po_maxl, po_minl, po_acopy, po_ixor, po_lds, po_slen, po_sidx, po_invT, po_stcT, po_stcT0, sk_swt, kX5_letterIn_0, kX5_handIn_0, kX5_strengthIn_0, kX5_weakened_0, kX5_codeAt_0, kX5_put_0, kX7_isSkin_0, kX7_wide_0, kX7_rows_0, kX7_legible_0, kX7_coinsAtFirst_0, kX7_cells_0, kX7_spots_0, kX7_hasCell_0, kX7_hasRow_0, kX7_hasHand_0, kX7_ofHand_0, kX7_firstOf_0, kX7_rowOf_0, kX7_placeOf_0, kX10_isLetter_0, kX10_signAt_0, kX8_writingAt_0, kX8_lawThatHolds_0, kX8_lets_0, kX9_rewind_0, kX9_step_0, kX9_stepBack_0, kX9_cut_0, kX3_clear_0, kX3_add_0, kX6_judge_0, kX6_swap_0, kX1_push_0, kX1_pop_0, kX0_forget_0, kX11_refuse_0, kX11_draw_0, kX12_in_0, kX12_has_0, kX12_here_0, kX12_bad_0, kX12_isDigit_0, kX12_isSign_0, kX12_isInk_0, kX12_of_0, kX12_setOf_0, kX12_isCell_0, kX12_isHand_0, kX12_isRow_0, kX12_isWriting_0, kX12_isLegible_0, kX12_signOf_0, kX12_areYears_0, kX12_isRefused_0, kX12_draw_0, sk_nth, sk_set, sk_lok, sk_isL, sk_one, sk_pop, sk_wt, sk_cat, sk_ent, sk_pad, sk_tl_n, sk_tl_s, List.length_cons, List.length_nil, true_and, and_true, Bool.not_false, sk_F_at, Option.getD_some, sk_w_id, sk_I_at, sk_isI, false_implies, true_implies, forall_const, ne_eq, not_true_eq_false, not_false_eq_true, implies_true, true_or, or_true, va_up_self, va_up_ne, va_up_up, sk_I_up, p1, md_F0, md_F1, md_F2, md_F3, md_F4, md_F5, md_F6, md_F7, md_F8, md_F9, md_F10, md_F11, md_F12, md_F13, md_F14, md_F15, md_F16, md_F17, md_F18, md_F19, md_F20, md_F21, md_F22, md_F23, md_F24, md_F25, md_F26, md_F27, md_F28, md_F29, md_F30, md_F31, md_F32, md_F33, md_F34, md_F35, md_F36, md_F37, md_F38, md_F39, md_F40, md_F41, md_F42, md_F43, md_F44, md_F45, md_F46, md_F47, md_F48, md_u0, md_u2, md_u3, md_u4, md_u5, md_u13, md_u14, md_u19, md_u22, md_u23, md_u27, md_u30, md_u31, md_u33, md_u35, md_u36, md_u45, md_u48, md_upl, mS_4]
      and_intros <;> intros <;> and_intros <;> intros <;> and_intros <;> intros <;> and_intros <;> intros <;> and_intros <;> intros <;> and_intros <;> intros <;> and_intros <;> intros <;> and_intros <;> intros <;> and_intros <;> intros <;> and_intros <;> intros <;> and_intros <;> intros <;> and_intros <;> intros <;> and_intros <;> try first | omega | rfl | assumption
    · obtain ⟨s1, s2, s3, s4, s5⟩ := si_step (w := w) hsn (by omega) b1.2.1
      by_cases eb : sk_and (sk_shr sn w) 1 = 1
      · rw [if_pos (Or.inr eb)] at hY
        have hR := hY rfl M h
        have eb2 : sk_w (sk_and (sk_shr sn w) 1) = sk_w 1 := by rw [eb]
        refine tX12_items_41 _ _ _ ?_
        simp (disch := omega) only [kX12_items_41, po_aload, po_getf, po_i, po_icne, po_iload, po_iceq, po_stcT, po_ret, po_ifne, kX12_has_0, po_ishr, po_iand, po_zret, sk_tl_s, sk_nth, sk_set, sk_lok, sk_isL, sk_pop, sk_wt, sk_cat, sk_ent, sk_pad, List.length_cons, List.length_nil, true_and, Bool.not_false, true_or, or_true, p1, md_F0, md_F1, md_F2, md_F3, md_F4, md_F5, md_F6, md_F7, md_F8, md_F9, md_F10, md_F11, md_F12, md_F13, md_F14, md_F15, md_F16, md_F17, md_F18, md_F19, md_F20, md_F21, md_F22, md_F23, md_F24, md_F25, md_F26, md_F27, md_F28, md_F29, md_F30, md_F31, md_F32, md_F33, md_F34, md_F35, md_F36, md_F37, md_F38, md_F39, md_F40, md_F41, md_F42, md_F43, md_F44, md_F45, md_F46, md_F47, md_F48, md_u0, md_u2, md_u3, md_u4, md_u5, md_u13, md_u14, md_u19, md_u22, md_u23, md_u27, md_u30, md_u31, md_u33, md_u35, md_u36, md_u45, md_u48, md_upl, mS_4]
        refine ⟨fun e => absurd rfl e, fun _ => ⟨fun e => hR, fun _ => ⟨by decide, by omega, by decide, ?_⟩⟩⟩
        sorry
      · rw [if_neg (fun e => e.elim ew eb)] at hY hN
        have e2 : tp_ch (Y0 1) (S0 2) (tp_skip (Y0 1) (S0 2) i) ≠ -1 := fun e => ew (hw9 e)
        have lo := si_lo_in true w
        have hi := si_hi_in true w
        have h3 := sms_st (i' := tp_skip (Y0 1) (S0 2) i + 1) (wr' := -1) (hn' := hn) h
        have p3 := h3.1.1
        sorry

end SKN
