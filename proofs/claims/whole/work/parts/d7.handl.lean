/-! ===== the class's hand where it answers; the law's own hand ===== -/
section HANDL
variable {g : sk_G} {d ck sk : Nat} {M : sk_M} {Q : sk_P} {A ra rb out : Nat} {R H ly hs : Int → Int} {hands hasR sc dr a b co ye lg ll v0 : Int}
def x_hnd (H ly hs : Int → Int) (a b : Int) : Int := if b < 2 then H (2 * a + b) else if b = 2 then sk_sm (fun c => sk_sm (fun i => if ly (6 * c + i) / 16 % 4 = a then 1 else 0) 0 (hs c).toNat) 0 40 else a_str ly hs a
theorem c_handN (hd : 8 ≤ d) (hx : xc M A ra rb R H hands hasR sc dr) (hP : pg_at M (A + 22) (A + 23) (A + 24) ly hs co ye lg ll) (hk : pg_ok ly hs) (h : 0 ≤ a ∧ a < hands ∧ 0 ≤ b ∧ b ≤ 3) (hQ : Q (some (.inl (x_hnd H ly hs a b))) M) : sk_call g d ck sk xX11_hand [.inr (.inr (some A)), .inl a, .inl b] M Q := by
  obtain ⟨p0, ⟨r0, r1, r2⟩, -, -, -, h0, h4⟩ := hx
  obtain ⟨g0, g1, g2⟩ := id hP
  obtain ⟨a0, a1, b0, b3⟩ := h
  unfold x_hnd at hQ
  refine tX11_hand_0 _ _ _ ?_
  simp (disch := omega) only [kX11_hand_0, po_i, po_l, po_null, po_iload, po_lload, po_aload, po_istore, po_astore, po_iinc, po_iadd, po_isub, po_imul, po_ineg, po_iand, po_ior, po_ishl, po_ishr, po_iushr, po_idiv, po_irem, po_dup, po_dup2, po_pop, po_ifeq, po_ifne, po_iflt, po_ifge, po_ifgt, po_ifle, po_iceq, po_icne, po_iclt, po_icge, po_icgt, po_icle, po_ifnull, po_ifnull1, po_ret, po_iret, po_zret, po_lret, po_aret, po_getf, po_puti, po_putz, po_putl, po_puta, po_iaload, po_iastore, po_alen, po_baload, po_bastore, po_laload, po_lastore, po_aaload, po_aastore, po_invB, po_stcB, po_stcB0, po_iniB, po_new, po_newa, po_obj, po_ladd, po_lsub, po_lmul, po_ldiv, po_lrem, po_land, po_lor, po_lshl, po_lushr, po_i2l, po_l2i, po_i2c, po_lcmp, po_lstore, po_tsw, po_gets, po_max, po_min, po_maxl, po_minl, po_acopy, po_ixor, po_lds, po_slen, po_sidx, po_invT, po_stcT, po_stcT0, sk_swt, kX5_letterIn_0, kX5_handIn_0, kX5_strengthIn_0, kX5_weakened_0, kX5_codeAt_0, kX5_put_0, kX7_isSkin_0, kX7_wide_0, kX7_rows_0, kX7_legible_0, kX7_coinsAtFirst_0, kX7_cells_0, kX7_spots_0, kX7_hasCell_0, kX7_hasRow_0, kX7_hasHand_0, kX7_ofHand_0, kX7_firstOf_0, kX7_rowOf_0, kX7_placeOf_0, kX10_isLetter_0, kX10_signAt_0, kX8_writingAt_0, kX8_lawThatHolds_0, kX8_lets_0, kX9_rewind_0, kX9_step_0, kX9_stepBack_0, kX9_cut_0, kX3_clear_0, kX3_add_0, kX6_judge_0, kX6_swap_0, kX1_push_0, kX1_pop_0, kX0_forget_0, kX11_refuse_0, kX11_draw_0, kX12_in_0, kX12_has_0, kX12_here_0, kX12_bad_0, kX12_isDigit_0, kX12_isSign_0, kX12_isInk_0, kX12_of_0, kX12_setOf_0, kX12_isCell_0, kX12_isHand_0, kX12_isRow_0, kX12_isWriting_0, kX12_isLegible_0, kX12_signOf_0, kX12_areYears_0, kX12_isRefused_0, kX12_draw_0, sk_nth, sk_set, sk_lok, sk_isL, sk_one, sk_pop, sk_wt, sk_cat, sk_ent, sk_pad, sk_tl_n, sk_tl_s, List.length_cons, List.length_nil, true_and, and_true, Bool.not_false, sk_F_at, Option.getD_some, sk_w_id, sk_I_at, sk_isI, false_implies, true_implies, forall_const, ne_eq, not_true_eq_false, not_false_eq_true, implies_true, true_or, or_true, va_up_self, va_up_ne, va_up_up, sk_I_up, p0, xF_0, xF_1, xF_2, xF_3, xF_4, xF_5, xF_6, xF_7, xF_8, xF_9, xF_10, xF_11, xF_12, xF_13, xF_14, xF_15, xF_16, r0, r1, r2, g0]
  and_intros <;> intros <;> and_intros <;> intros <;> and_intros <;> intros <;> and_intros <;> intros <;> and_intros <;> intros <;> and_intros <;> intros <;> and_intros <;> intros <;> and_intros <;> intros <;> and_intros <;> intros <;> and_intros <;> intros <;> and_intros <;> intros <;> and_intros <;> intros <;> and_intros <;> intros <;> and_intros <;> intros <;> and_intros <;> intros <;> and_intros <;> intros <;> and_intros <;> intros <;> and_intros <;> intros <;> and_intros <;> intros <;> and_intros <;> intros <;> and_intros <;> intros <;> and_intros <;> intros <;> and_intros <;> intros <;> and_intros <;> intros <;> and_intros <;> try first | omega | rfl | assumption
  all_goals first
    | omega
    | (rw [if_pos (by omega)] at hQ; exact hQ)
    | (rw [if_neg (by omega), if_pos (by omega)] at hQ
       refine c_layersOf (by omega) (by omega) (by omega) hP hk ?_
       simp only [sk_tl_s, po_iret]
       exact hQ)
    | (rw [if_neg (by omega), if_neg (by omega)] at hQ
       refine c_strengthOf (by omega) (by omega) (by omega) hP hk ?_
       simp only [sk_tl_s, po_iret]
       exact hQ)
/-- the law's own hand out of a walk -/
def lh_T (s : State) (c : Code) : Prop := c.exceptionTable.toList = tableOf [(0, 10, 13, 13)]
def lh_MQ (g : sk_G) (Q : sk_P) : sk_PM := fun below args s mc ms => MQ below (sk_Q g Q) args s mc ms (sk_fr g)
theorem sg_ofB {w : sk_W} {pc : Nat} {L : List (Option sk_V)} {st : List sk_V} (h : sk_B w pc L st M) : sk_BG lh_T (lh_MQ w.1 w.2.2.2.2.2) w pc L st M :=
  fun p e s m args below meth c H locs cells slots mc ms ls hC _ h1 h2 hH hLo hl => h p e s m args below meth c H locs cells slots mc ms ls hC h1 h2 hH hLo hl
theorem lh_met {as : List sk_V} (hg : sk_ok g) (hn : (sk_ent as).length ≤ 5) (h : sk_BG lh_T (lh_MQ g Q) (g, d, ck, sk, xL_hand, Q) 0 (sk_pad 5 (sk_ent as)) [] M) : Met g.1 yL_hand lh_ws (sk_R d ck sk) (sk_Pc g as M) (sk_Q g Q) ck sk (sk_fr g) := by
  refine MetFree.of_bodyS (code := cL_hand) (maxLocals := 5) (ret := some .int) (by decide +kernel) ?_ ?_
  · intro args s m h hn
    obtain ⟨m9, meth, c, hn9, h1, h2, h3, h4, -, h5, h6, -⟩ := Cond.codeWith_spec (atoms_spec (ws := lh_ws) h _ List.mem_cons_self)
    cases hn.symm.trans hn9
    exact ⟨meth, c, h1, h2, h3, h4, h5, h6⟩
  · intro p e s m args below meth c s₁ B hml hP _
    obtain ⟨rfl, hH, hW⟩ := hP
    have hh0 : s₁.heap = s.heap := by rw [B.state]; rfl
    have ht : lh_T s c := vx_table (x := yL_hand) B (atoms_spec (ws := lh_ws) B.pre _ List.mem_cons_self)
    have hl := lv_entry (as.map sk_val) (n := 5) (by rw [sk_ent_len]; exact hn)
    have K := h p e s m (as.map sk_val).toArray below meth c s.heap [] 0 0 ck sk _ ⟨B.exec, B.bytes, B.returns, hml, B.notSynchronized, findClass_of_methodNamed B.named, (name_of_methodNamed B.named B.method).1, hW, hg⟩ ht (Nat.le_of_eq (Nat.zero_add _)) (Nat.le_of_eq (Nat.zero_add _)) hH (fun q hq => by cases hq) (by rw [sk_lv_pad, sk_lv_ent]; exact hl)
    obtain ⟨t, a1, o, b1, b2, b3⟩ := K s₁ hh0 (Stand.of_body B)
    exact ⟨t, o, by rw [lg_entry_eq]; exact a1, b1, b2, ⟨b3.1, b3.2⟩⟩
end HANDL
