/-! ===== the class's hand ===== -/
section HANDC
variable {g : sk_G} {d ck sk : Nat} {M : sk_M} {Q : sk_P} {A ra rb : Nat} {R H : Int → Int} {hands hasR sc dr a b : Int}
theorem c_hasHand (hd : 1 ≤ d) (hr : ru_at M ra R H hands hasR) (ha : i32 a) (h0 : 0 ≤ hands) (h4 : hands ≤ 4) (hQ : Q (some (.inl (if 0 ≤ a ∧ a < hands then 1 else 0))) M) : sk_call g d ck sk xX7_hasHand [.inr (.inr (some ra)), .inl a] M Q := by
  obtain ⟨p0, p1, p2⟩ := hr
  unfold i32 at ha
  refine tX7_hasHand_0 _ _ _ ?_
  simp (disch := omega) only [kX7_hasHand_0, po_i, po_l, po_null, po_iload, po_lload, po_aload, po_istore, po_astore, po_iinc, po_iadd, po_isub, po_imul, po_ineg, po_iand, po_ior, po_ishl, po_ishr, po_iushr, po_idiv, po_irem, po_dup, po_dup2, po_pop, po_ifeq, po_ifne, po_iflt, po_ifge, po_ifgt, po_ifle, po_iceq, po_icne, po_iclt, po_icge, po_icgt, po_icle, po_ifnull, po_ifnull1, po_ret, po_iret, po_zret, po_lret, po_aret, po_getf, po_puti, po_putz, po_putl, po_puta, po_iaload, po_iastore, po_alen, po_baload, po_bastore, po_laload, po_lastore, po_aaload, po_aastore, po_invB, po_stcB, po_stcB0, po_iniB, po_new, po_newa, po_obj, po_ladd, po_lsub, po_lmul, po_ldiv, po_lrem, po_land, po_lor, po_lshl, po_lushr, po_i2l, po_l2i, po_i2c, po_lcmp, po_lstore, po_tsw, po_gets, po_max, po_min, po_maxl, po_minl, po_acopy, po_ixor, po_lds, po_slen, po_sidx, po_invT, po_stcT, po_stcT0, sk_swt, kX5_letterIn_0, kX5_handIn_0, kX5_strengthIn_0, kX5_weakened_0, kX5_codeAt_0, kX5_put_0, kX7_isSkin_0, kX7_wide_0, kX7_rows_0, kX7_legible_0, kX7_coinsAtFirst_0, kX7_cells_0, kX7_spots_0, kX7_hasCell_0, kX7_hasRow_0, kX7_hasHand_0, kX7_ofHand_0, kX7_firstOf_0, kX7_rowOf_0, kX7_placeOf_0, kX10_isLetter_0, kX10_signAt_0, kX8_writingAt_0, kX8_lawThatHolds_0, kX8_lets_0, kX9_rewind_0, kX9_step_0, kX9_stepBack_0, kX9_cut_0, kX3_clear_0, kX3_add_0, kX6_judge_0, kX6_swap_0, kX1_push_0, kX1_pop_0, kX0_forget_0, kX11_refuse_0, kX11_draw_0, kX12_in_0, kX12_has_0, kX12_here_0, kX12_bad_0, kX12_isDigit_0, kX12_isSign_0, kX12_isInk_0, kX12_of_0, kX12_setOf_0, kX12_isCell_0, kX12_isHand_0, kX12_isRow_0, kX12_isWriting_0, kX12_isLegible_0, kX12_signOf_0, kX12_areYears_0, kX12_isRefused_0, kX12_draw_0, sk_nth, sk_set, sk_lok, sk_isL, sk_one, sk_pop, sk_wt, sk_cat, sk_ent, sk_pad, sk_tl_n, sk_tl_s, List.length_cons, List.length_nil, true_and, and_true, Bool.not_false, sk_F_at, Option.getD_some, sk_w_id, sk_I_at, sk_isI, false_implies, true_implies, forall_const, ne_eq, not_true_eq_false, not_false_eq_true, implies_true, true_or, or_true, va_up_self, va_up_ne, va_up_up, sk_I_up, p0]
  refine ⟨fun z => ?_, fun z => ⟨fun z2 => ?_, fun z2 => ?_⟩⟩
  · rw [if_neg (by omega)] at hQ; exact hQ
  · rw [if_neg (by omega)] at hQ; exact hQ
  · rw [if_pos (by omega)] at hQ; exact hQ
theorem c_handX (hok : lh_ok g) (hd : 8 ≤ d) (hck : 1 ≤ ck) (hsk : 6 ≤ sk) (hx : xc M A ra rb R H hands hasR sc dr) (ha : i32 a) (hb : i32 b) (hn : ¬ (0 ≤ a ∧ a < hands ∧ 0 ≤ b ∧ b ≤ 3)) : sk_BG (lh_E g M) (lh_PM g M Q) (g, d, ck, sk, xX11_hand, Q) 0 [some (.inr (.inr (some A))), some (.inl a), some (.inl b)] [] M := by
  obtain ⟨p0, hr, -, -, -, h0, h4⟩ := hx
  have hk : (M.2 ra).1 = 7 := by rw [hr.1]
  unfold i32 at ha hb
  refine sg_aload_n dX11_hand_0 rfl ?_
  refine sg_getf (ci := 11) (j := 1) (C := RX11) (T := TX11) (N := 17) dX11_hand_1 rfl (by decide) (by decide) qf_X11_19 (by rw [p0]) ?_
  rw [p0]
  refine sg_iload_n dX11_hand_4 rfl ?_
  refine sg_inv (X := xX7_hasHand) (n := 1) (ci := 7) (T := TX7) (N := 4) (a := ra) (as := [.inl a]) (r := []) (v := .inl (if 0 ≤ a ∧ a < hands then 1 else 0)) dX11_hand_5 m_X7_hasHand rfl (by decide) qm_X11_151 qi_X7_hasHand qe_X7_hasHand rfl rfl hk (by decide) (by show 1 ≤ d; omega) (Nat.le_refl 2) (c_hasHand (by show 1 ≤ d - 1; omega) hr ha h0 h4 ⟨rfl, rfl⟩) ?_
  refine sg_ifeq (tgt := 20) dX11_hand_8 (by decide) (fun _ => sg_throw hok (by omega) hck hsk) (fun z => ?_)
  have z1 : 0 ≤ a ∧ a < hands := by
    by_cases e : 0 ≤ a ∧ a < hands
    · exact e
    · rw [if_neg e] at z; exact (z rfl).elim
  refine sg_iload_n dX11_hand_11 rfl ?_
  refine sg_iflt (tgt := 20) dX11_hand_12 (by decide) (fun _ => sg_throw hok (by omega) hck hsk) (fun z2 => ?_)
  refine sg_iload_n dX11_hand_15 rfl ?_
  refine sg_iconst dX11_hand_16 ?_
  refine sg_icle (tgt := 30) dX11_hand_17 (by decide) (fun z3 => ?_) (fun _ => sg_throw hok (by omega) hck hsk)
  rw [sk_w_id hb.1 (by omega)] at z2 z3
  rw [sk_w_id (by decide) (by decide)] at z3
  exact (hn ⟨z1.1, z1.2, z2, z3⟩).elim
/-- the class's hand as a callee that throws -/
theorem lh_metX (hg : sk_ok g) (hok : lh_ok g) (hd : 8 ≤ d) (hck : 1 ≤ ck) (hsk : 6 ≤ sk) (hx : xc M A ra rb R H hands hasR sc dr) (ha : i32 a) (hb : i32 b) (hn : ¬ (0 ≤ a ∧ a < hands ∧ 0 ≤ b ∧ b ≤ 3)) :
    vx_Met g.1 xX11_hand.1 [Cond.code xX11_hand.1 xX11_hand.2.1 xX11_hand.2.2.1 xX11_hand.2.2.2] (sk_R d ck sk) (sk_Pc g [.inr (.inr (some A)), .inl a, .inl b] M) (sk_Q g (fun _ _ => False)) (lh_XC g M) ck sk (sk_fr g) := by
  refine vx_ofW (cc := xX11_hand.2.1) (maxL := xX11_hand.2.2.1) (ret := xX11_hand.2.2.2) (by decide +kernel) rfl ?_
  intro p e s m args below meth c s₁ B hml ht hv
  obtain ⟨rfl, hH, hW⟩ := hv
  have hl := lv_entry ([.inr (.inr (some A)), .inl a, .inl b].map sk_val) (n := 3) (by rw [sk_ent_len]; exact Nat.le_refl 3)
  rw [lg_entry_eq]
  refine c_handX (Q := fun _ _ => False) hok hd hck hsk hx ha hb hn p e s m _ below meth c s.heap [] 0 0 ck sk _ ⟨B.exec, B.bytes, B.returns, hml, B.notSynchronized, findClass_of_methodNamed B.named, (name_of_methodNamed B.named B.method).1, hW, hg⟩ ⟨ht, hH.1, hH.2.2.1⟩ (Nat.le_of_eq (Nat.zero_add _)) (Nat.le_of_eq (Nat.zero_add _)) hH (fun q hq => by cases hq) ?_
  exact hl
end HANDC
