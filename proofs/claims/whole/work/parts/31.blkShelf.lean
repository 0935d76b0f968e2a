theorem dX8_writingAt_0 : decode cX8_writingAt 0 = .ok (.iload_n 1, 1) := by decide +kernel
theorem dX8_writingAt_1 : decode cX8_writingAt 1 = .ok (.ifCond .lt 11, 3) := by decide +kernel
theorem dX8_writingAt_4 : decode cX8_writingAt 4 = .ok (.iload_n 1, 1) := by decide +kernel
theorem dX8_writingAt_5 : decode cX8_writingAt 5 = .ok (.aload_n 0, 1) := by decide +kernel
theorem dX8_writingAt_6 : decode cX8_writingAt 6 = .ok (.getfield 40, 3) := by decide +kernel
theorem dX8_writingAt_9 : decode cX8_writingAt 9 = .ok (.if_icmp .lt 7, 3) := by decide +kernel
theorem dX8_writingAt_12 : decode cX8_writingAt 12 = .ok (.aconst_null, 1) := by decide +kernel
theorem dX8_writingAt_13 : decode cX8_writingAt 13 = .ok (.goto 9, 3) := by decide +kernel
theorem dX8_writingAt_16 : decode cX8_writingAt 16 = .ok (.aload_n 0, 1) := by decide +kernel
theorem dX8_writingAt_17 : decode cX8_writingAt 17 = .ok (.getfield 19, 3) := by decide +kernel
theorem dX8_writingAt_20 : decode cX8_writingAt 20 = .ok (.iload_n 1, 1) := by decide +kernel
theorem dX8_writingAt_21 : decode cX8_writingAt 21 = .ok (.aaload, 1) := by decide +kernel
theorem dX8_writingAt_22 : decode cX8_writingAt 22 = .ok (.areturn, 1) := by decide +kernel
set_option maxRecDepth 20000 in
def kX8_writingAt_0 (g : sk_G) (d ck sk : Nat) (Q : sk_P) : sk_K := o_iload 1 (o_iflt (o_null (o_aret (g, d, ck, sk, xX8_writingAt, Q))) (o_iload 1 (o_aload 0 (o_getf 8 5 (o_iclt (o_aload 0 (o_getf 8 1 (o_iload 1 (o_aaload (o_aret (g, d, ck, sk, xX8_writingAt, Q)))))) (o_null (o_aret (g, d, ck, sk, xX8_writingAt, Q))))))))
set_option maxRecDepth 20000 in
theorem tX8_writingAt_0 {g : sk_G} {d ck sk : Nat} {Q : sk_P} : sk_S (g, d, ck, sk, xX8_writingAt, Q) 0 (kX8_writingAt_0 g d ck sk Q) := s_iload_n dX8_writingAt_0 rfl (s_iflt (tgt := 12) dX8_writingAt_1 (by decide) (s_null dX8_writingAt_12 (s_goto (tgt := 22) dX8_writingAt_13 (by decide) (s_aret dX8_writingAt_22 rfl))) (s_iload_n dX8_writingAt_4 rfl (s_aload_n dX8_writingAt_5 rfl (s_getf (ci := 8) (j := 5) (C := RX8) (T := TX8) (N := 7) dX8_writingAt_6 rfl (by decide) (by decide) qf_X8_40 (s_iclt (tgt := 16) dX8_writingAt_9 (by decide) (s_aload_n dX8_writingAt_16 rfl (s_getf (ci := 8) (j := 1) (C := RX8) (T := TX8) (N := 7) dX8_writingAt_17 rfl (by decide) (by decide) qf_X8_19 (s_iload_n dX8_writingAt_20 rfl (s_aaload dX8_writingAt_21 (s_aret dX8_writingAt_22 rfl))))) (s_null dX8_writingAt_12 (s_goto (tgt := 22) dX8_writingAt_13 (by decide) (s_aret dX8_writingAt_22 rfl))))))))
theorem dX8_lets_0 : decode cX8_lets 0 = .ok (.iload_n 1, 1) := by decide +kernel
theorem dX8_lets_1 : decode cX8_lets 1 = .ok (.iconst (-1), 1) := by decide +kernel
theorem dX8_lets_2 : decode cX8_lets 2 = .ok (.if_icmp .lt 11, 3) := by decide +kernel
theorem dX8_lets_5 : decode cX8_lets 5 = .ok (.iload_n 1, 1) := by decide +kernel
theorem dX8_lets_6 : decode cX8_lets 6 = .ok (.aload_n 0, 1) := by decide +kernel
theorem dX8_lets_7 : decode cX8_lets 7 = .ok (.getfield 37, 3) := by decide +kernel
theorem dX8_lets_10 : decode cX8_lets 10 = .ok (.if_icmp .lt 5, 3) := by decide +kernel
theorem dX8_lets_13 : decode cX8_lets 13 = .ok (.iconst 0, 1) := by decide +kernel
theorem dX8_lets_14 : decode cX8_lets 14 = .ok (.ireturn, 1) := by decide +kernel
theorem dX8_lets_15 : decode cX8_lets 15 = .ok (.aload_n 0, 1) := by decide +kernel
theorem dX8_lets_16 : decode cX8_lets 16 = .ok (.iload_n 1, 1) := by decide +kernel
theorem dX8_lets_17 : decode cX8_lets 17 = .ok (.putfield 33, 3) := by decide +kernel
theorem dX8_lets_20 : decode cX8_lets 20 = .ok (.iconst 1, 1) := by decide +kernel
theorem dX8_lets_21 : decode cX8_lets 21 = .ok (.ireturn, 1) := by decide +kernel
def kX8_lets_0 (g : sk_G) (d ck sk : Nat) (Q : sk_P) : sk_K := o_iload 1 (o_i (-1) (o_iclt (o_i (0) (o_zret (g, d, ck, sk, xX8_lets, Q))) (o_iload 1 (o_aload 0 (o_getf 8 4 (o_iclt (o_aload 0 (o_iload 1 (o_puti 8 6 (o_i (1) (o_zret (g, d, ck, sk, xX8_lets, Q)))))) (o_i (0) (o_zret (g, d, ck, sk, xX8_lets, Q)))))))))
theorem tX8_lets_0 {g : sk_G} {d ck sk : Nat} {Q : sk_P} : sk_S (g, d, ck, sk, xX8_lets, Q) 0 (kX8_lets_0 g d ck sk Q) := s_iload_n dX8_lets_0 rfl (s_iconst dX8_lets_1 (s_iclt (tgt := 13) dX8_lets_2 (by decide) (s_iconst dX8_lets_13 (s_zret dX8_lets_14 rfl)) (s_iload_n dX8_lets_5 rfl (s_aload_n dX8_lets_6 rfl (s_getf (ci := 8) (j := 4) (C := RX8) (T := TX8) (N := 7) dX8_lets_7 rfl (by decide) (by decide) qf_X8_37 (s_iclt (tgt := 15) dX8_lets_10 (by decide) (s_aload_n dX8_lets_15 rfl (s_iload_n dX8_lets_16 rfl (s_puti (ci := 8) (j := 6) (C := RX8) (T := TX8) (N := 7) dX8_lets_17 rfl (by decide) (by decide) rfl (tyX8_ok 6 (by decide)) qf_X8_33 (s_iconst dX8_lets_20 (s_zret dX8_lets_21 rfl))))) (s_iconst dX8_lets_13 (s_zret dX8_lets_14 rfl))))))))
theorem dX8_lawThatHolds_0 : decode cX8_lawThatHolds 0 = .ok (.aload_n 0, 1) := by decide +kernel
theorem dX8_lawThatHolds_1 : decode cX8_lawThatHolds 1 = .ok (.getfield 33, 3) := by decide +kernel
theorem dX8_lawThatHolds_4 : decode cX8_lawThatHolds 4 = .ok (.ifCond .lt 14, 3) := by decide +kernel
theorem dX8_lawThatHolds_7 : decode cX8_lawThatHolds 7 = .ok (.aload_n 0, 1) := by decide +kernel
theorem dX8_lawThatHolds_8 : decode cX8_lawThatHolds 8 = .ok (.getfield 33, 3) := by decide +kernel
theorem dX8_lawThatHolds_11 : decode cX8_lawThatHolds 11 = .ok (.aload_n 0, 1) := by decide +kernel
theorem dX8_lawThatHolds_12 : decode cX8_lawThatHolds 12 = .ok (.getfield 37, 3) := by decide +kernel
theorem dX8_lawThatHolds_15 : decode cX8_lawThatHolds 15 = .ok (.if_icmp .lt 7, 3) := by decide +kernel
theorem dX8_lawThatHolds_18 : decode cX8_lawThatHolds 18 = .ok (.aconst_null, 1) := by decide +kernel
theorem dX8_lawThatHolds_19 : decode cX8_lawThatHolds 19 = .ok (.goto 12, 3) := by decide +kernel
theorem dX8_lawThatHolds_22 : decode cX8_lawThatHolds 22 = .ok (.aload_n 0, 1) := by decide +kernel
theorem dX8_lawThatHolds_23 : decode cX8_lawThatHolds 23 = .ok (.getfield 11, 3) := by decide +kernel
theorem dX8_lawThatHolds_26 : decode cX8_lawThatHolds 26 = .ok (.aload_n 0, 1) := by decide +kernel
theorem dX8_lawThatHolds_27 : decode cX8_lawThatHolds 27 = .ok (.getfield 33, 3) := by decide +kernel
theorem dX8_lawThatHolds_30 : decode cX8_lawThatHolds 30 = .ok (.aaload, 1) := by decide +kernel
theorem dX8_lawThatHolds_31 : decode cX8_lawThatHolds 31 = .ok (.areturn, 1) := by decide +kernel
set_option maxRecDepth 20000 in
def kX8_lawThatHolds_0 (g : sk_G) (d ck sk : Nat) (Q : sk_P) : sk_K := o_aload 0 (o_getf 8 6 (o_iflt (o_null (o_aret (g, d, ck, sk, xX8_lawThatHolds, Q))) (o_aload 0 (o_getf 8 6 (o_aload 0 (o_getf 8 4 (o_iclt (o_aload 0 (o_getf 8 0 (o_aload 0 (o_getf 8 6 (o_aaload (o_aret (g, d, ck, sk, xX8_lawThatHolds, Q))))))) (o_null (o_aret (g, d, ck, sk, xX8_lawThatHolds, Q))))))))))
set_option maxRecDepth 20000 in
theorem tX8_lawThatHolds_0 {g : sk_G} {d ck sk : Nat} {Q : sk_P} : sk_S (g, d, ck, sk, xX8_lawThatHolds, Q) 0 (kX8_lawThatHolds_0 g d ck sk Q) := s_aload_n dX8_lawThatHolds_0 rfl (s_getf (ci := 8) (j := 6) (C := RX8) (T := TX8) (N := 7) dX8_lawThatHolds_1 rfl (by decide) (by decide) qf_X8_33 (s_iflt (tgt := 18) dX8_lawThatHolds_4 (by decide) (s_null dX8_lawThatHolds_18 (s_goto (tgt := 31) dX8_lawThatHolds_19 (by decide) (s_aret dX8_lawThatHolds_31 rfl))) (s_aload_n dX8_lawThatHolds_7 rfl (s_getf (ci := 8) (j := 6) (C := RX8) (T := TX8) (N := 7) dX8_lawThatHolds_8 rfl (by decide) (by decide) qf_X8_33 (s_aload_n dX8_lawThatHolds_11 rfl (s_getf (ci := 8) (j := 4) (C := RX8) (T := TX8) (N := 7) dX8_lawThatHolds_12 rfl (by decide) (by decide) qf_X8_37 (s_iclt (tgt := 22) dX8_lawThatHolds_15 (by decide) (s_aload_n dX8_lawThatHolds_22 rfl (s_getf (ci := 8) (j := 0) (C := RX8) (T := TX8) (N := 7) dX8_lawThatHolds_23 rfl (by decide) (by decide) qf_X8_11 (s_aload_n dX8_lawThatHolds_26 rfl (s_getf (ci := 8) (j := 6) (C := RX8) (T := TX8) (N := 7) dX8_lawThatHolds_27 rfl (by decide) (by decide) qf_X8_33 (s_aaload dX8_lawThatHolds_30 (s_aret dX8_lawThatHolds_31 rfl)))))) (s_null dX8_lawThatHolds_18 (s_goto (tgt := 31) dX8_lawThatHolds_19 (by decide) (s_aret dX8_lawThatHolds_31 rfl))))))))))
theorem dX8_init_0 : decode cX8_init 0 = .ok (.aload_n 0, 1) := by decide +kernel
theorem dX8_init_1 : decode cX8_init 1 = .ok (.invokespecial 3, 3) := by decide +kernel
theorem dX8_init_4 : decode cX8_init 4 = .ok (.aload_n 0, 1) := by decide +kernel
theorem dX8_init_5 : decode cX8_init 5 = .ok (.iconst 4, 1) := by decide +kernel
theorem dX8_init_6 : decode cX8_init 6 = .ok (.anewarray 9, 3) := by decide +kernel
theorem dX8_init_9 : decode cX8_init 9 = .ok (.putfield 11, 3) := by decide +kernel
theorem dX8_init_12 : decode cX8_init 12 = .ok (.aload_n 0, 1) := by decide +kernel
theorem dX8_init_13 : decode cX8_init 13 = .ok (.bipush 6, 2) := by decide +kernel
theorem dX8_init_15 : decode cX8_init 15 = .ok (.anewarray 17, 3) := by decide +kernel
theorem dX8_init_18 : decode cX8_init 18 = .ok (.putfield 19, 3) := by decide +kernel
theorem dX8_init_21 : decode cX8_init 21 = .ok (.aload_n 0, 1) := by decide +kernel
theorem dX8_init_22 : decode cX8_init 22 = .ok (.new 9, 3) := by decide +kernel
theorem dX8_init_25 : decode cX8_init 25 = .ok (.dup, 1) := by decide +kernel
theorem dX8_init_26 : decode cX8_init 26 = .ok (.invokespecial 23, 3) := by decide +kernel
theorem dX8_init_29 : decode cX8_init 29 = .ok (.putfield 24, 3) := by decide +kernel
theorem dX8_init_32 : decode cX8_init 32 = .ok (.aload_n 0, 1) := by decide +kernel
theorem dX8_init_33 : decode cX8_init 33 = .ok (.new 17, 3) := by decide +kernel
theorem dX8_init_36 : decode cX8_init 36 = .ok (.dup, 1) := by decide +kernel
theorem dX8_init_37 : decode cX8_init 37 = .ok (.invokespecial 28, 3) := by decide +kernel
theorem dX8_init_40 : decode cX8_init 40 = .ok (.putfield 29, 3) := by decide +kernel
theorem dX8_init_43 : decode cX8_init 43 = .ok (.aload_n 0, 1) := by decide +kernel
theorem dX8_init_44 : decode cX8_init 44 = .ok (.iconst (-1), 1) := by decide +kernel
theorem dX8_init_45 : decode cX8_init 45 = .ok (.putfield 33, 3) := by decide +kernel
theorem dX8_init_48 : decode cX8_init 48 = .ok (.return_, 1) := by decide +kernel
set_option maxRecDepth 20000 in
def kX8_init_0 (g : sk_G) (d ck sk : Nat) (Q : sk_P) : sk_K := o_aload 0 (o_obj (g, d, ck, sk, xX8_init, Q) (o_aload 0 (o_i (4) (o_newa (g, d, ck, sk, xX8_init, Q) 24 4 (sk_A (fun _ => none)) (o_puta 8 0 (o_aload 0 (o_i (6) (o_newa (g, d, ck - 1, sk - 4, xX8_init, Q) 25 6 (sk_A (fun _ => none)) (o_puta 8 1 (o_aload 0 (o_new (g, d, ck - 1 - 1, sk - 4 - 6, xX8_init, Q) 1 5 [.inr (.inr none), .inl 0, .inr (.inr none), .inr (.inr none), .inl 0] (o_dup (o_iniB (g, d, ck - 1 - 1 - 1, sk - 4 - 6 - 5, xX8_init, Q) xX1_init 0 3 278 (o_puta 8 2 (o_aload 0 (o_new (g, d, ck - 1 - 1 - 1 - 3, sk - 4 - 6 - 5 - 278, xX8_init, Q) 10 9 [.inr (.inr none), .inr (.inr none), .inr (.inr none), .inr (.inr none), .inr (.inr none), .inl 0, .inl 0, .inl 0, .inl 0] (o_dup (o_iniB (g, d, ck - 1 - 1 - 1 - 3 - 1, sk - 4 - 6 - 5 - 278 - 9, xX8_init, Q) xX10_init 0 5 56 (o_puta 8 3 (o_aload 0 (o_i (-1) (o_puti 8 6 (o_ret (g, d, ck - 1 - 1 - 1 - 3 - 1 - 5, sk - 4 - 6 - 5 - 278 - 9 - 56, xX8_init, Q))))))))))))))))))))))))
set_option maxRecDepth 20000 in
theorem tX8_init_0 {g : sk_G} {d ck sk : Nat} {Q : sk_P} : sk_S (g, d, ck, sk, xX8_init, Q) 0 (kX8_init_0 g d ck sk Q) := s_aload_n dX8_init_0 rfl (s_obj dX8_init_1 qm_X8_3 qi_obj qc_obj (s_aload_n dX8_init_4 rfl (s_iconst dX8_init_5 (s_anewa (w' := (g, d, ck - 1, sk - 4, xX8_init, Q)) (q := 24) (N := 4) dX8_init_6 (by decide) (by decide) rfl (by decide) ql_X8_9 qv_X1 rfl (s_putaF (ci := 8) (j := 0) (C := RX8) (T := TX8) (N := 7) dX8_init_9 rfl (by decide) (by decide) rfl rfl rfl (Or.inr ⟨_, rfl⟩) (tyX8_ok 0 (by decide)) qf_X8_11 (s_aload_n dX8_init_12 rfl (s_bipush dX8_init_13 rfl (s_anewa (w' := (g, d, ck - 1 - 1, sk - 4 - 6, xX8_init, Q)) (q := 25) (N := 6) dX8_init_15 (by decide) (by decide) rfl (by decide) ql_X8_17 qv_X10 rfl (s_putaF (ci := 8) (j := 1) (C := RX8) (T := TX8) (N := 7) dX8_init_18 rfl (by decide) (by decide) rfl rfl rfl (Or.inr ⟨_, rfl⟩) (tyX8_ok 1 (by decide)) qf_X8_19 (s_aload_n dX8_init_21 rfl (s_new (w' := (g, d, ck - 1 - 1 - 1, sk - 4 - 6 - 5, xX8_init, Q)) (ci := 1) (N := 5) (C := RX1) (T := TX1) (ty := tyX1) dX8_init_22 rfl (by decide) tyX1_ok (by decide) (by decide) ql_X8_9 qa_X1 qz_X1 rfl (s_dup dX8_init_25 (s_iniN (w' := (g, d, ck - 1 - 1 - 1 - 3, sk - 4 - 6 - 5 - 278, xX8_init, Q)) (ck := 3) (sk := 278) dX8_init_26 m_X1_init rfl rfl qmn_X8_23 qi_X1_init rfl (s_puta (ci := 8) (j := 2) (C := RX8) (T := TX8) (N := 7) dX8_init_29 rfl (by decide) (by decide) rfl (Or.inl ⟨_, rfl⟩) (tyX8_ok 2 (by decide)) qf_X8_24 (s_aload_n dX8_init_32 rfl (s_new (w' := (g, d, ck - 1 - 1 - 1 - 3 - 1, sk - 4 - 6 - 5 - 278 - 9, xX8_init, Q)) (ci := 10) (N := 9) (C := RX10) (T := TX10) (ty := tyX10) dX8_init_33 rfl (by decide) tyX10_ok (by decide) (by decide) ql_X8_17 qa_X10 qz_X10 rfl (s_dup dX8_init_36 (s_iniN (w' := (g, d, ck - 1 - 1 - 1 - 3 - 1 - 5, sk - 4 - 6 - 5 - 278 - 9 - 56, xX8_init, Q)) (ck := 5) (sk := 56) dX8_init_37 m_X10_init rfl rfl qmn_X8_28 qi_X10_init rfl (s_puta (ci := 8) (j := 3) (C := RX8) (T := TX8) (N := 7) dX8_init_40 rfl (by decide) (by decide) rfl (Or.inl ⟨_, rfl⟩) (tyX8_ok 3 (by decide)) qf_X8_29 (s_aload_n dX8_init_43 rfl (s_iconst dX8_init_44 (s_puti (ci := 8) (j := 6) (C := RX8) (T := TX8) (N := 7) dX8_init_45 rfl (by decide) (by decide) rfl (tyX8_ok 6 (by decide)) qf_X8_33 (s_ret dX8_init_48 rfl)))))))))))))))))))))))
theorem dX8_takeLaw_0 : decode cX8_takeLaw 0 = .ok (.aload_n 0, 1) := by decide +kernel
theorem dX8_takeLaw_1 : decode cX8_takeLaw 1 = .ok (.getfield 37, 3) := by decide +kernel
theorem dX8_takeLaw_4 : decode cX8_takeLaw 4 = .ok (.iconst 4, 1) := by decide +kernel
theorem dX8_takeLaw_5 : decode cX8_takeLaw 5 = .ok (.if_icmp .lt 5, 3) := by decide +kernel
theorem dX8_takeLaw_8 : decode cX8_takeLaw 8 = .ok (.iconst (-1), 1) := by decide +kernel
theorem dX8_takeLaw_9 : decode cX8_takeLaw 9 = .ok (.ireturn, 1) := by decide +kernel
theorem dX8_takeLaw_10 : decode cX8_takeLaw 10 = .ok (.aload_n 0, 1) := by decide +kernel
theorem dX8_takeLaw_11 : decode cX8_takeLaw 11 = .ok (.getfield 11, 3) := by decide +kernel
theorem dX8_takeLaw_14 : decode cX8_takeLaw 14 = .ok (.aload_n 0, 1) := by decide +kernel
theorem dX8_takeLaw_15 : decode cX8_takeLaw 15 = .ok (.getfield 37, 3) := by decide +kernel
theorem dX8_takeLaw_18 : decode cX8_takeLaw 18 = .ok (.aload_n 0, 1) := by decide +kernel
theorem dX8_takeLaw_19 : decode cX8_takeLaw 19 = .ok (.getfield 24, 3) := by decide +kernel
theorem dX8_takeLaw_22 : decode cX8_takeLaw 22 = .ok (.aastore, 1) := by decide +kernel
theorem dX8_takeLaw_23 : decode cX8_takeLaw 23 = .ok (.aload_n 0, 1) := by decide +kernel
theorem dX8_takeLaw_24 : decode cX8_takeLaw 24 = .ok (.new 9, 3) := by decide +kernel
theorem dX8_takeLaw_27 : decode cX8_takeLaw 27 = .ok (.dup, 1) := by decide +kernel
theorem dX8_takeLaw_28 : decode cX8_takeLaw 28 = .ok (.invokespecial 23, 3) := by decide +kernel
theorem dX8_takeLaw_31 : decode cX8_takeLaw 31 = .ok (.putfield 24, 3) := by decide +kernel
theorem dX8_takeLaw_34 : decode cX8_takeLaw 34 = .ok (.aload_n 0, 1) := by decide +kernel
theorem dX8_takeLaw_35 : decode cX8_takeLaw 35 = .ok (.dup, 1) := by decide +kernel
theorem dX8_takeLaw_36 : decode cX8_takeLaw 36 = .ok (.getfield 37, 3) := by decide +kernel
theorem dX8_takeLaw_39 : decode cX8_takeLaw 39 = .ok (.iconst 1, 1) := by decide +kernel
theorem dX8_takeLaw_40 : decode cX8_takeLaw 40 = .ok (.iadd, 1) := by decide +kernel
theorem dX8_takeLaw_41 : decode cX8_takeLaw 41 = .ok (.putfield 37, 3) := by decide +kernel
theorem dX8_takeLaw_44 : decode cX8_takeLaw 44 = .ok (.aload_n 0, 1) := by decide +kernel
theorem dX8_takeLaw_45 : decode cX8_takeLaw 45 = .ok (.getfield 37, 3) := by decide +kernel
theorem dX8_takeLaw_48 : decode cX8_takeLaw 48 = .ok (.iconst 1, 1) := by decide +kernel
theorem dX8_takeLaw_49 : decode cX8_takeLaw 49 = .ok (.isub, 1) := by decide +kernel
theorem dX8_takeLaw_50 : decode cX8_takeLaw 50 = .ok (.ireturn, 1) := by decide +kernel
set_option maxRecDepth 20000 in
def kX8_takeLaw_0 (g : sk_G) (d ck sk : Nat) (Q : sk_P) : sk_K := o_aload 0 (o_getf 8 4 (o_i (4) (o_iclt (o_aload 0 (o_getf 8 0 (o_aload 0 (o_getf 8 4 (o_aload 0 (o_getf 8 2 (o_aastore (o_aload 0 (o_new (g, d, ck, sk, xX8_takeLaw, Q) 1 5 [.inr (.inr none), .inl 0, .inr (.inr none), .inr (.inr none), .inl 0] (o_dup (o_iniB (g, d, ck - 1, sk - 5, xX8_takeLaw, Q) xX1_init 0 3 278 (o_puta 8 2 (o_aload 0 (o_dup (o_getf 8 4 (o_i (1) (o_iadd (o_puti 8 4 (o_aload 0 (o_getf 8 4 (o_i (1) (o_isub (o_iret (g, d, ck - 1 - 3, sk - 5 - 278, xX8_takeLaw, Q)))))))))))))))))))))))) (o_i (-1) (o_iret (g, d, ck, sk, xX8_takeLaw, Q))))))
set_option maxRecDepth 20000 in
theorem tX8_takeLaw_0 {g : sk_G} {d ck sk : Nat} {Q : sk_P} : sk_S (g, d, ck, sk, xX8_takeLaw, Q) 0 (kX8_takeLaw_0 g d ck sk Q) := s_aload_n dX8_takeLaw_0 rfl (s_getf (ci := 8) (j := 4) (C := RX8) (T := TX8) (N := 7) dX8_takeLaw_1 rfl (by decide) (by decide) qf_X8_37 (s_iconst dX8_takeLaw_4 (s_iclt (tgt := 10) dX8_takeLaw_5 (by decide) (s_aload_n dX8_takeLaw_10 rfl (s_getf (ci := 8) (j := 0) (C := RX8) (T := TX8) (N := 7) dX8_takeLaw_11 rfl (by decide) (by decide) qf_X8_11 (s_aload_n dX8_takeLaw_14 rfl (s_getf (ci := 8) (j := 4) (C := RX8) (T := TX8) (N := 7) dX8_takeLaw_15 rfl (by decide) (by decide) qf_X8_37 (s_aload_n dX8_takeLaw_18 rfl (s_getf (ci := 8) (j := 2) (C := RX8) (T := TX8) (N := 7) dX8_takeLaw_19 rfl (by decide) (by decide) qf_X8_24 (s_aastore dX8_takeLaw_22 (s_aload_n dX8_takeLaw_23 rfl (s_new (w' := (g, d, ck - 1, sk - 5, xX8_takeLaw, Q)) (ci := 1) (N := 5) (C := RX1) (T := TX1) (ty := tyX1) dX8_takeLaw_24 rfl (by decide) tyX1_ok (by decide) (by decide) ql_X8_9 qa_X1 qz_X1 rfl (s_dup dX8_takeLaw_27 (s_iniN (w' := (g, d, ck - 1 - 3, sk - 5 - 278, xX8_takeLaw, Q)) (ck := 3) (sk := 278) dX8_takeLaw_28 m_X1_init rfl rfl qmn_X8_23 qi_X1_init rfl (s_puta (ci := 8) (j := 2) (C := RX8) (T := TX8) (N := 7) dX8_takeLaw_31 rfl (by decide) (by decide) rfl (Or.inl ⟨_, rfl⟩) (tyX8_ok 2 (by decide)) qf_X8_24 (s_aload_n dX8_takeLaw_34 rfl (s_dup dX8_takeLaw_35 (s_getf (ci := 8) (j := 4) (C := RX8) (T := TX8) (N := 7) dX8_takeLaw_36 rfl (by decide) (by decide) qf_X8_37 (s_iconst dX8_takeLaw_39 (s_iadd dX8_takeLaw_40 (s_puti (ci := 8) (j := 4) (C := RX8) (T := TX8) (N := 7) dX8_takeLaw_41 rfl (by decide) (by decide) rfl (tyX8_ok 4 (by decide)) qf_X8_37 (s_aload_n dX8_takeLaw_44 rfl (s_getf (ci := 8) (j := 4) (C := RX8) (T := TX8) (N := 7) dX8_takeLaw_45 rfl (by decide) (by decide) qf_X8_37 (s_iconst dX8_takeLaw_48 (s_isub dX8_takeLaw_49 (s_iret dX8_takeLaw_50 rfl))))))))))))))))))))))) (s_iconst dX8_takeLaw_8 (s_iret dX8_takeLaw_9 rfl)))))
theorem dX8_takeWriting_0 : decode cX8_takeWriting 0 = .ok (.aload_n 0, 1) := by decide +kernel
theorem dX8_takeWriting_1 : decode cX8_takeWriting 1 = .ok (.getfield 40, 3) := by decide +kernel
theorem dX8_takeWriting_4 : decode cX8_takeWriting 4 = .ok (.bipush 6, 2) := by decide +kernel
theorem dX8_takeWriting_6 : decode cX8_takeWriting 6 = .ok (.if_icmp .lt 5, 3) := by decide +kernel
theorem dX8_takeWriting_9 : decode cX8_takeWriting 9 = .ok (.iconst (-1), 1) := by decide +kernel
theorem dX8_takeWriting_10 : decode cX8_takeWriting 10 = .ok (.ireturn, 1) := by decide +kernel
theorem dX8_takeWriting_11 : decode cX8_takeWriting 11 = .ok (.aload_n 0, 1) := by decide +kernel
theorem dX8_takeWriting_12 : decode cX8_takeWriting 12 = .ok (.getfield 19, 3) := by decide +kernel
theorem dX8_takeWriting_15 : decode cX8_takeWriting 15 = .ok (.aload_n 0, 1) := by decide +kernel
theorem dX8_takeWriting_16 : decode cX8_takeWriting 16 = .ok (.getfield 40, 3) := by decide +kernel
theorem dX8_takeWriting_19 : decode cX8_takeWriting 19 = .ok (.aload_n 0, 1) := by decide +kernel
theorem dX8_takeWriting_20 : decode cX8_takeWriting 20 = .ok (.getfield 29, 3) := by decide +kernel
theorem dX8_takeWriting_23 : decode cX8_takeWriting 23 = .ok (.aastore, 1) := by decide +kernel
theorem dX8_takeWriting_24 : decode cX8_takeWriting 24 = .ok (.aload_n 0, 1) := by decide +kernel
theorem dX8_takeWriting_25 : decode cX8_takeWriting 25 = .ok (.new 17, 3) := by decide +kernel
theorem dX8_takeWriting_28 : decode cX8_takeWriting 28 = .ok (.dup, 1) := by decide +kernel
theorem dX8_takeWriting_29 : decode cX8_takeWriting 29 = .ok (.invokespecial 28, 3) := by decide +kernel
theorem dX8_takeWriting_32 : decode cX8_takeWriting 32 = .ok (.putfield 29, 3) := by decide +kernel
theorem dX8_takeWriting_35 : decode cX8_takeWriting 35 = .ok (.aload_n 0, 1) := by decide +kernel
theorem dX8_takeWriting_36 : decode cX8_takeWriting 36 = .ok (.dup, 1) := by decide +kernel
theorem dX8_takeWriting_37 : decode cX8_takeWriting 37 = .ok (.getfield 40, 3) := by decide +kernel
theorem dX8_takeWriting_40 : decode cX8_takeWriting 40 = .ok (.iconst 1, 1) := by decide +kernel
theorem dX8_takeWriting_41 : decode cX8_takeWriting 41 = .ok (.iadd, 1) := by decide +kernel
theorem dX8_takeWriting_42 : decode cX8_takeWriting 42 = .ok (.putfield 40, 3) := by decide +kernel
theorem dX8_takeWriting_45 : decode cX8_takeWriting 45 = .ok (.aload_n 0, 1) := by decide +kernel
theorem dX8_takeWriting_46 : decode cX8_takeWriting 46 = .ok (.getfield 40, 3) := by decide +kernel
theorem dX8_takeWriting_49 : decode cX8_takeWriting 49 = .ok (.iconst 1, 1) := by decide +kernel
theorem dX8_takeWriting_50 : decode cX8_takeWriting 50 = .ok (.isub, 1) := by decide +kernel
theorem dX8_takeWriting_51 : decode cX8_takeWriting 51 = .ok (.ireturn, 1) := by decide +kernel
set_option maxRecDepth 20000 in
def kX8_takeWriting_0 (g : sk_G) (d ck sk : Nat) (Q : sk_P) : sk_K := o_aload 0 (o_getf 8 5 (o_i (6) (o_iclt (o_aload 0 (o_getf 8 1 (o_aload 0 (o_getf 8 5 (o_aload 0 (o_getf 8 3 (o_aastore (o_aload 0 (o_new (g, d, ck, sk, xX8_takeWriting, Q) 10 9 [.inr (.inr none), .inr (.inr none), .inr (.inr none), .inr (.inr none), .inr (.inr none), .inl 0, .inl 0, .inl 0, .inl 0] (o_dup (o_iniB (g, d, ck - 1, sk - 9, xX8_takeWriting, Q) xX10_init 0 5 56 (o_puta 8 3 (o_aload 0 (o_dup (o_getf 8 5 (o_i (1) (o_iadd (o_puti 8 5 (o_aload 0 (o_getf 8 5 (o_i (1) (o_isub (o_iret (g, d, ck - 1 - 5, sk - 9 - 56, xX8_takeWriting, Q)))))))))))))))))))))))) (o_i (-1) (o_iret (g, d, ck, sk, xX8_takeWriting, Q))))))
set_option maxRecDepth 20000 in
theorem tX8_takeWriting_0 {g : sk_G} {d ck sk : Nat} {Q : sk_P} : sk_S (g, d, ck, sk, xX8_takeWriting, Q) 0 (kX8_takeWriting_0 g d ck sk Q) := s_aload_n dX8_takeWriting_0 rfl (s_getf (ci := 8) (j := 5) (C := RX8) (T := TX8) (N := 7) dX8_takeWriting_1 rfl (by decide) (by decide) qf_X8_40 (s_bipush dX8_takeWriting_4 rfl (s_iclt (tgt := 11) dX8_takeWriting_6 (by decide) (s_aload_n dX8_takeWriting_11 rfl (s_getf (ci := 8) (j := 1) (C := RX8) (T := TX8) (N := 7) dX8_takeWriting_12 rfl (by decide) (by decide) qf_X8_19 (s_aload_n dX8_takeWriting_15 rfl (s_getf (ci := 8) (j := 5) (C := RX8) (T := TX8) (N := 7) dX8_takeWriting_16 rfl (by decide) (by decide) qf_X8_40 (s_aload_n dX8_takeWriting_19 rfl (s_getf (ci := 8) (j := 3) (C := RX8) (T := TX8) (N := 7) dX8_takeWriting_20 rfl (by decide) (by decide) qf_X8_29 (s_aastore dX8_takeWriting_23 (s_aload_n dX8_takeWriting_24 rfl (s_new (w' := (g, d, ck - 1, sk - 9, xX8_takeWriting, Q)) (ci := 10) (N := 9) (C := RX10) (T := TX10) (ty := tyX10) dX8_takeWriting_25 rfl (by decide) tyX10_ok (by decide) (by decide) ql_X8_17 qa_X10 qz_X10 rfl (s_dup dX8_takeWriting_28 (s_iniN (w' := (g, d, ck - 1 - 5, sk - 9 - 56, xX8_takeWriting, Q)) (ck := 5) (sk := 56) dX8_takeWriting_29 m_X10_init rfl rfl qmn_X8_28 qi_X10_init rfl (s_puta (ci := 8) (j := 3) (C := RX8) (T := TX8) (N := 7) dX8_takeWriting_32 rfl (by decide) (by decide) rfl (Or.inl ⟨_, rfl⟩) (tyX8_ok 3 (by decide)) qf_X8_29 (s_aload_n dX8_takeWriting_35 rfl (s_dup dX8_takeWriting_36 (s_getf (ci := 8) (j := 5) (C := RX8) (T := TX8) (N := 7) dX8_takeWriting_37 rfl (by decide) (by decide) qf_X8_40 (s_iconst dX8_takeWriting_40 (s_iadd dX8_takeWriting_41 (s_puti (ci := 8) (j := 5) (C := RX8) (T := TX8) (N := 7) dX8_takeWriting_42 rfl (by decide) (by decide) rfl (tyX8_ok 5 (by decide)) qf_X8_40 (s_aload_n dX8_takeWriting_45 rfl (s_getf (ci := 8) (j := 5) (C := RX8) (T := TX8) (N := 7) dX8_takeWriting_46 rfl (by decide) (by decide) qf_X8_40 (s_iconst dX8_takeWriting_49 (s_isub dX8_takeWriting_50 (s_iret dX8_takeWriting_51 rfl))))))))))))))))))))))) (s_iconst dX8_takeWriting_9 (s_iret dX8_takeWriting_10 rfl)))))
