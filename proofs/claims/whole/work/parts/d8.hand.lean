/-! ===== the law's own hand: what it answers, what it catches ===== -/
theorem sk_H_1 {g : sk_G} {n a : Nat} {m : Nat → sk_C} {f f' : Nat → sk_V} {H : Heap} (h : sk_H g (n, va_up m a (22, 1, f)) H) (e : f 0 = f' 0) : sk_H g (n, va_up m a (22, 1, f')) H := by
  refine ⟨h.1, h.2.1, h.2.2.1, fun q hq => ?_⟩
  have h4 := h.2.2.2 q
  by_cases e2 : q = a
  · subst e2
    rw [show (n, va_up m q (22, 1, f)).2 q = (22, 1, f) from va_up_self _ _ _] at h4
    rw [show (n, va_up m q (22, 1, f')).2 q = (22, 1, f') from va_up_self _ _ _]
    obtain ⟨⟨b1, b2, b3⟩, b4⟩ := h4 (show 22 < 40 by decide)
    refine ⟨⟨fun z => absurd (show 22 < 20 from z) (by decide), fun z z2 => (b2 z z2).trans ?_, fun z => absurd (show 30 ≤ 22 from z) (by decide)⟩, fun z => b4 z⟩
    have e3 : arrV (g.2.2.2.1 22) 1 (fun j => sk_val (f j)) = arrV (g.2.2.2.1 22) 1 (fun j => sk_val (f' j)) := by
      unfold arrV
      have e4 : (fun j : Fin 1 => sk_val (f j.val)) = (fun j : Fin 1 => sk_val (f' j.val)) := by
        funext j
        have ej : j.val = 0 := by omega
        rw [ej, e]
      rw [e4]
    exact congrArg some e3
  · have k1 : (n, va_up m a (22, 1, f)).2 q = m q := va_up_ne _ _ e2
    have k2 : (n, va_up m a (22, 1, f')).2 q = m q := va_up_ne _ _ e2
    rw [k1] at h4
    rw [k2] at hq ⊢
    exact h4 hq
section HAND
variable {g : sk_G} {d ck sk : Nat} {M : sk_M} {Q Q1 : sk_P} {A ra rb out : Nat} {R H ly hs : Int → Int} {hands hasR sc dr a b co ye lg ll v0 r : Int}
theorem lh_metN {as : List sk_V} (hg : sk_ok g) (hn : (sk_ent as).length ≤ 5) (h : sk_BG lh_T (lh_MQ g Q1) (g, d, ck, sk, xL_hand, Q1) 0 (sk_pad 5 (sk_ent as)) [] M) (hQ : ∀ (v : Option sk_V) (M' : sk_M) (H : Heap), Q1 v M' → sk_H g M' H → ∃ M2, sk_H g M2 H ∧ Q v M2) : Met g.1 yL_hand lh_ws (sk_R d ck sk) (sk_Pc g as M) (sk_Q g Q) ck sk (sk_fr g) := by
  refine lh_met (Q := Q) hg hn ?_
  intro p e s m args below meth c H locs cells slots mc ms ls hC hE h1 h2 hH hLo hl T hT X
  obtain ⟨t, a1, o, b1, b2, ⟨v, M', hv, hH', hW', hq⟩, b4⟩ := h p e s m args below meth c H locs cells slots mc ms ls hC hE h1 h2 hH hLo hl T hT X
  obtain ⟨M2, hM2, hq2⟩ := hQ v M' t.heap hq hH'
  exact ⟨t, a1, o, b1, b2, ⟨v, M2, hv, hM2, hW', hq2⟩, b4⟩
/-- it answers 0, the answer lies in out -/
theorem lh_norm (hd : 9 ≤ d) (hg : sk_ok g) (hA : (M.2 A).1 = 11) (hout : M.2 out = (22, 1, fun _ => .inr (.inl v0))) (hcall : ∀ Q' : sk_P, Q' (some (.inl r)) M → sk_call g (d - 1) 0 0 xX11_hand [.inr (.inr (some A)), .inl a, .inl b] M Q') (hQ : Q (some (.inl 0)) (M.1, va_up M.2 out (22, 1, fun _ => .inr (.inl (sk_w r))))) :
    Met g.1 yL_hand lh_ws (sk_R d ck sk) (sk_Pc g [.inr (.inr (some A)), .inl a, .inl b, .inr (.inr (some out))] M) (sk_Q g Q) ck sk (sk_fr g) := by
  refine lh_metN (Q1 := fun v M' => v = some (.inl 0) ∧ M' = (M.1, va_up M.2 out (22, 1, va_up (fun _ => .inr (.inl v0)) 0 (.inr (.inl (sk_w r)))))) hg (Nat.le_of_ble_eq_true rfl) (sg_ofB ?_) (fun v M' H hq hH => ?_)
  · refine tL_hand_0 _ _ _ ?_
    simp (disch := omega) only [kL_hand_0, po_i, po_l, po_null, po_iload, po_lload, po_aload, po_istore, po_astore, po_iinc, po_iadd, po_isub, po_imul, po_ineg, po_iand, po_ior, po_ishl, po_ishr, po_iushr, po_idiv, po_irem, po_dup, po_dup2, po_pop, po_ifeq, po_ifne, po_iflt, po_ifge, po_ifgt, po_ifle, po_iceq, po_icne, po_iclt, po_icge, po_icgt, po_icle, po_ifnull, po_ifnull1, po_ret, po_iret, po_zret, po_lret, po_aret, po_getf, po_puti, po_putz, po_putl, po_puta, po_iaload, po_iastore, po_alen, po_baload, po_bastore, po_laload, po_lastore, po_aaload, po_aastore, po_invB, po_stcB, po_stcB0, po_iniB, po_new, po_newa, po_obj, po_ladd, po_lsub, po_lmul, po_ldiv, po_lrem, po_land, po_lor, po_lshl, po_lushr, po_i2l, po_l2i, po_i2c, po_lcmp, po_lstore, po_tsw, po_gets, po_max, po_min, po_maxl, po_minl, po_acopy, po_ixor, po_lds, po_slen, po_sidx, po_invT, po_stcT, po_stcT0, sk_swt, kX5_letterIn_0, kX5_handIn_0, kX5_strengthIn_0, kX5_weakened_0, kX5_codeAt_0, kX5_put_0, kX7_isSkin_0, kX7_wide_0, kX7_rows_0, kX7_legible_0, kX7_coinsAtFirst_0, kX7_cells_0, kX7_spots_0, kX7_hasCell_0, kX7_hasRow_0, kX7_hasHand_0, kX7_ofHand_0, kX7_firstOf_0, kX7_rowOf_0, kX7_placeOf_0, kX10_isLetter_0, kX10_signAt_0, kX8_writingAt_0, kX8_lawThatHolds_0, kX8_lets_0, kX9_rewind_0, kX9_step_0, kX9_stepBack_0, kX9_cut_0, kX3_clear_0, kX3_add_0, kX6_judge_0, kX6_swap_0, kX1_push_0, kX1_pop_0, kX0_forget_0, kX11_refuse_0, kX11_draw_0, kX12_in_0, kX12_has_0, kX12_here_0, kX12_bad_0, kX12_isDigit_0, kX12_isSign_0, kX12_isInk_0, kX12_of_0, kX12_setOf_0, kX12_isCell_0, kX12_isHand_0, kX12_isRow_0, kX12_isWriting_0, kX12_isLegible_0, kX12_signOf_0, kX12_areYears_0, kX12_isRefused_0, kX12_draw_0, sk_nth, sk_set, sk_lok, sk_isL, sk_one, sk_pop, sk_wt, sk_cat, sk_ent, sk_pad, sk_tl_n, sk_tl_s, List.length_cons, List.length_nil, true_and, and_true, Bool.not_false, sk_F_at, Option.getD_some, sk_w_id, sk_I_at, sk_isI, false_implies, true_implies, forall_const, ne_eq, not_true_eq_false, not_false_eq_true, implies_true, true_or, or_true, va_up_self, va_up_ne, va_up_up, sk_I_up, hA]
    refine ⟨by omega, by omega, by omega, by omega, by omega, hcall _ ?_⟩
    simp (disch := omega) only [sk_tl_s, po_i2l, po_lastore, po_i, po_iret, hout, sk_w_id, true_and]
    exact ⟨by decide, by decide, rfl⟩
  · obtain ⟨rfl, rfl⟩ := hq
    exact ⟨_, sk_H_1 hH (va_up_self _ _ _), hQ⟩
/-- it catches: 1 -/
theorem lh_catch (hd : 10 ≤ d) (hck : 1 ≤ ck) (hsk : 6 ≤ sk) (hg : sk_ok g) (hok : lh_ok g) (hx : xc M A ra rb R H hands hasR sc dr) (ha : i32 a) (hb : i32 b) (hn : ¬ (0 ≤ a ∧ a < hands ∧ 0 ≤ b ∧ b ≤ 3)) (hQ : ∀ n, M.1 ≤ n → Q (some (.inl 1)) (n, M.2)) :
    Met g.1 yL_hand lh_ws (sk_R d ck sk) (sk_Pc g [.inr (.inr (some A)), .inl a, .inl b, .inr (.inr (some out))] M) (sk_Q g Q) ck sk (sk_fr g) := by
  have hA : (M.2 A).1 = 11 := by rw [hx.1]
  refine lh_met hg (Nat.le_of_ble_eq_true rfl) ?_
  refine sg_aload_n (a := out) dL_hand_0 rfl (sg_iconst dL_hand_1 (sg_aload_n (a := A) dL_hand_2 rfl (sg_iload_n (x := a) dL_hand_3 rfl (sg_iload_n (x := b) dL_hand_4 rfl ?_))))
  intro p e s m args below meth c H' locs cells slots mc ms ls hC hE h1 h2 hH hLo hl
  have hC0 := hC
  obtain ⟨hxx, hbb, -, hml, -, hown, -, hW, -⟩ := hC
  obtain ⟨⟨cell, q1, q2, q3, q4⟩, -⟩ := sk_obj (s := s) (ci := 11) (C := RX11) (T := TX11) (N := 17) hH rfl (by decide) hA
  have hcls := ((hg.1.moved hW.alike).1 11 _ (rfl : vwCl[11]? = some (RX11, TX11, 17))).2
  have hr : vx_Run p g.1 e (sk_R d mc ms) s m args below meth c H' locs cells slots ck sk (F0 m 5 ls ([sk_val (.inl b), sk_val (.inl a), .ref A, sk_val (.inl 0), .ref out])) [sk_val (.inl 0), .ref out] (sk_Q g (fun _ _ => False) (Value.ref A :: [.inl a, .inl b].map sk_val).toArray) (lh_XC g M) (sk_fr g) :=
    vx_runV (Ts := []) (As := [.inl a, .inl b].map sk_val) (b := A) (C := RX11) (n := 2) ⟨hxx, hbb, hml, hown, fun w h => by cases h⟩ (lh_metX (d := d - 1) hg hok (by omega) hck hsk hx ha hb hn) ⟨sk_callB m_X11_hand hg hW (by show 1 ≤ d; omega) qm_L_7, sk_use qi_X11_hand rfl hg hW args, sk_use qe_X11_hand rfl hg hW args⟩ ⟨sk_blind _ _ _, ⟨cell, q1, by rw [q3]; rfl, by rw [q2]; exact hcls.1⟩, fun U hU hWU => ⟨rfl, by rw [hU]; exact hH, State.WarmedH.trans hW hWU⟩⟩ rfl rfl hl.1 rfl (lv_room (by show 1 + (1 + 0) ≤ 8; decide)) dL_hand_5 ⟨by show cells + ck ≤ mc; exact h1, by show slots + sk ≤ ms; exact h2⟩
  intro T hT X
  rcases hr T hT X with ⟨v, st₀, t, T', L', h0, X', hL, e1, e2, ⟨v2, M', hv, hH', hW', hq⟩, st⟩ | ⟨q, st₀, t, T', L', E, ce, h0, X', hL, e1, e2, ⟨hE1, hE2, hE3⟩, hce, hcv, hcl, st⟩
  · exact hq.elim
  subst hE1
  have hcast : (Cond.castable lh_N lh_N).before args s = true := lh_word hg hW args _ (by decide +kernel)
  obtain ⟨vm', X2, st2⟩ := lh_caught X' q (g := F0 m 5 ls [sk_val (.inl 0), .ref out]) (own := RL) (name := lh_N) (E := lh_N) rfl hown (x := ⟨0, 10, 13, 13⟩) hE (by show covers ⟨0, 10, 13, 13⟩ 5 = true; decide) (by decide) (sk_use (lh_in _ (List.mem_cons_of_mem _ (List.mem_cons_of_mem _ List.mem_cons_self))) rfl hg hW args) hcast (by rw [e1]; exact hce) hcv hcl
  have K : sk_B (g, d, 0, 0, xL_hand, Q) 13 [some (.inr (.inr (some A))), some (.inl a), some (.inl b), some (.inr (.inr (some out))), none] [.inr (.inr (some q))] (t.heap.size, M.2) := by
    refine tL_hand_13 _ _ _ ?_
    simp only [kL_hand_13, po_astore, po_i, po_iret, sk_lok, sk_set, sk_nth, sk_isL, Bool.not_false, true_and]
    exact hQ _ hE3
  obtain ⟨t2, a1, b1⟩ := K p e s m args below meth c T'.heap (locs ++ L') (cells + ck) (slots + sk) mc ms ls hC0 h1 h2 (by rw [e1]; exact hE2) (fun q hq => (List.mem_append.mp hq).elim (hLo q) (hL q)) hl (T'.setVm vm') rfl X2
  exact ⟨t2, st.trans (st2.trans a1), b1⟩
end HAND
