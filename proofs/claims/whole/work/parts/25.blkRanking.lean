theorem dX6_judge_0 : decode cX6_judge 0 = .ok (.aload_n 0, 1) := by decide +kernel
theorem dX6_judge_1 : decode cX6_judge 1 = .ok (.getfield 9, 3) := by decide +kernel
theorem dX6_judge_4 : decode cX6_judge 4 = .ok (.bipush 6, 2) := by decide +kernel
theorem dX6_judge_6 : decode cX6_judge 6 = .ok (.iload_n 1, 1) := by decide +kernel
theorem dX6_judge_7 : decode cX6_judge 7 = .ok (.imul, 1) := by decide +kernel
theorem dX6_judge_8 : decode cX6_judge 8 = .ok (.iload_n 2, 1) := by decide +kernel
theorem dX6_judge_9 : decode cX6_judge 9 = .ok (.iadd, 1) := by decide +kernel
theorem dX6_judge_10 : decode cX6_judge 10 = .ok (.iload_n 3, 1) := by decide +kernel
theorem dX6_judge_11 : decode cX6_judge 11 = .ok (.iastore, 1) := by decide +kernel
theorem dX6_judge_12 : decode cX6_judge 12 = .ok (.return_, 1) := by decide +kernel
def kX6_judge_0 (g : sk_G) (d ck sk : Nat) (Q : sk_P) : sk_K := o_aload 0 (o_getf 6 0 (o_i (6) (o_iload 1 (o_imul (o_iload 2 (o_iadd (o_iload 3 (o_iastore (o_ret (g, d, ck, sk, xX6_judge, Q))))))))))
theorem tX6_judge_0 {g : sk_G} {d ck sk : Nat} {Q : sk_P} : sk_S (g, d, ck, sk, xX6_judge, Q) 0 (kX6_judge_0 g d ck sk Q) := s_aload_n dX6_judge_0 rfl (s_getf (ci := 6) (j := 0) (C := RX6) (T := TX6) (N := 4) dX6_judge_1 rfl (by decide) (by decide) qf_X6_9 (s_bipush dX6_judge_4 rfl (s_iload_n dX6_judge_6 rfl (s_imul dX6_judge_7 (s_iload_n dX6_judge_8 rfl (s_iadd dX6_judge_9 (s_iload_n dX6_judge_10 rfl (s_iastore dX6_judge_11 (s_ret dX6_judge_12 rfl)))))))))
theorem dX6_swap_0 : decode cX6_swap 0 = .ok (.aload_n 0, 1) := by decide +kernel
theorem dX6_swap_1 : decode cX6_swap 1 = .ok (.getfield 15, 3) := by decide +kernel
theorem dX6_swap_4 : decode cX6_swap 4 = .ok (.iload_n 1, 1) := by decide +kernel
theorem dX6_swap_5 : decode cX6_swap 5 = .ok (.iaload, 1) := by decide +kernel
theorem dX6_swap_6 : decode cX6_swap 6 = .ok (.istore_n 3, 1) := by decide +kernel
theorem dX6_swap_7 : decode cX6_swap 7 = .ok (.aload_n 0, 1) := by decide +kernel
theorem dX6_swap_8 : decode cX6_swap 8 = .ok (.getfield 15, 3) := by decide +kernel
theorem dX6_swap_11 : decode cX6_swap 11 = .ok (.iload_n 1, 1) := by decide +kernel
theorem dX6_swap_12 : decode cX6_swap 12 = .ok (.aload_n 0, 1) := by decide +kernel
theorem dX6_swap_13 : decode cX6_swap 13 = .ok (.getfield 15, 3) := by decide +kernel
theorem dX6_swap_16 : decode cX6_swap 16 = .ok (.iload_n 2, 1) := by decide +kernel
theorem dX6_swap_17 : decode cX6_swap 17 = .ok (.iaload, 1) := by decide +kernel
theorem dX6_swap_18 : decode cX6_swap 18 = .ok (.iastore, 1) := by decide +kernel
theorem dX6_swap_19 : decode cX6_swap 19 = .ok (.aload_n 0, 1) := by decide +kernel
theorem dX6_swap_20 : decode cX6_swap 20 = .ok (.getfield 15, 3) := by decide +kernel
theorem dX6_swap_23 : decode cX6_swap 23 = .ok (.iload_n 2, 1) := by decide +kernel
theorem dX6_swap_24 : decode cX6_swap 24 = .ok (.iload_n 3, 1) := by decide +kernel
theorem dX6_swap_25 : decode cX6_swap 25 = .ok (.iastore, 1) := by decide +kernel
theorem dX6_swap_26 : decode cX6_swap 26 = .ok (.return_, 1) := by decide +kernel
set_option maxRecDepth 20000 in
def kX6_swap_0 (g : sk_G) (d ck sk : Nat) (Q : sk_P) : sk_K := o_aload 0 (o_getf 6 1 (o_iload 1 (o_iaload (o_istore 3 (o_aload 0 (o_getf 6 1 (o_iload 1 (o_aload 0 (o_getf 6 1 (o_iload 2 (o_iaload (o_iastore (o_aload 0 (o_getf 6 1 (o_iload 2 (o_iload 3 (o_iastore (o_ret (g, d, ck, sk, xX6_swap, Q)))))))))))))))))))
set_option maxRecDepth 20000 in
theorem tX6_swap_0 {g : sk_G} {d ck sk : Nat} {Q : sk_P} : sk_S (g, d, ck, sk, xX6_swap, Q) 0 (kX6_swap_0 g d ck sk Q) := s_aload_n dX6_swap_0 rfl (s_getf (ci := 6) (j := 1) (C := RX6) (T := TX6) (N := 4) dX6_swap_1 rfl (by decide) (by decide) qf_X6_15 (s_iload_n dX6_swap_4 rfl (s_iaload dX6_swap_5 (s_istore_n dX6_swap_6 rfl (by decide : 3 < 4) (s_aload_n dX6_swap_7 rfl (s_getf (ci := 6) (j := 1) (C := RX6) (T := TX6) (N := 4) dX6_swap_8 rfl (by decide) (by decide) qf_X6_15 (s_iload_n dX6_swap_11 rfl (s_aload_n dX6_swap_12 rfl (s_getf (ci := 6) (j := 1) (C := RX6) (T := TX6) (N := 4) dX6_swap_13 rfl (by decide) (by decide) qf_X6_15 (s_iload_n dX6_swap_16 rfl (s_iaload dX6_swap_17 (s_iastore dX6_swap_18 (s_aload_n dX6_swap_19 rfl (s_getf (ci := 6) (j := 1) (C := RX6) (T := TX6) (N := 4) dX6_swap_20 rfl (by decide) (by decide) qf_X6_15 (s_iload_n dX6_swap_23 rfl (s_iload_n dX6_swap_24 rfl (s_iastore dX6_swap_25 (s_ret dX6_swap_26 rfl))))))))))))))))))
theorem dX6_init_0 : decode cX6_init 0 = .ok (.aload_n 0, 1) := by decide +kernel
theorem dX6_init_1 : decode cX6_init 1 = .ok (.invokespecial 3, 3) := by decide +kernel
theorem dX6_init_4 : decode cX6_init 4 = .ok (.aload_n 0, 1) := by decide +kernel
theorem dX6_init_5 : decode cX6_init 5 = .ok (.bipush 36, 2) := by decide +kernel
theorem dX6_init_7 : decode cX6_init 7 = .ok (.newarray .int, 2) := by decide +kernel
theorem dX6_init_9 : decode cX6_init 9 = .ok (.putfield 9, 3) := by decide +kernel
theorem dX6_init_12 : decode cX6_init 12 = .ok (.aload_n 0, 1) := by decide +kernel
theorem dX6_init_13 : decode cX6_init 13 = .ok (.bipush 6, 2) := by decide +kernel
theorem dX6_init_15 : decode cX6_init 15 = .ok (.newarray .int, 2) := by decide +kernel
theorem dX6_init_17 : decode cX6_init 17 = .ok (.putfield 15, 3) := by decide +kernel
theorem dX6_init_20 : decode cX6_init 20 = .ok (.return_, 1) := by decide +kernel
set_option maxRecDepth 20000 in
def kX6_init_0 (g : sk_G) (d ck sk : Nat) (Q : sk_P) : sk_K := o_aload 0 (o_obj (g, d, ck, sk, xX6_init, Q) (o_aload 0 (o_i (36) (o_newa (g, d, ck, sk, xX6_init, Q) 20 36 (sk_I (fun _ => 0)) (o_puta 6 0 (o_aload 0 (o_i (6) (o_newa (g, d, ck - 1, sk - 36, xX6_init, Q) 20 6 (sk_I (fun _ => 0)) (o_puta 6 1 (o_ret (g, d, ck - 1 - 1, sk - 36 - 6, xX6_init, Q)))))))))))
set_option maxRecDepth 20000 in
theorem tX6_init_0 {g : sk_G} {d ck sk : Nat} {Q : sk_P} : sk_S (g, d, ck, sk, xX6_init, Q) 0 (kX6_init_0 g d ck sk Q) := s_aload_n dX6_init_0 rfl (s_obj dX6_init_1 qm_X6_3 qi_obj qc_obj (s_aload_n dX6_init_4 rfl (s_bipush dX6_init_5 rfl (s_newI (w' := (g, d, ck - 1, sk - 36, xX6_init, Q)) (N := 36) dX6_init_7 (by decide) qr_int rfl (s_putaF (ci := 6) (j := 0) (C := RX6) (T := TX6) (N := 4) dX6_init_9 rfl (by decide) (by decide) rfl rfl rfl (Or.inr ⟨_, rfl⟩) (tyX6_ok 0 (by decide)) qf_X6_9 (s_aload_n dX6_init_12 rfl (s_bipush dX6_init_13 rfl (s_newI (w' := (g, d, ck - 1 - 1, sk - 36 - 6, xX6_init, Q)) (N := 6) dX6_init_15 (by decide) qr_int rfl (s_putaF (ci := 6) (j := 1) (C := RX6) (T := TX6) (N := 4) dX6_init_17 rfl (by decide) (by decide) rfl rfl rfl (Or.inr ⟨_, rfl⟩) (tyX6_ok 1 (by decide)) qf_X6_15 (s_ret dX6_init_20 rfl))))))))))
theorem dX6_seek_0 : decode cX6_seek 0 = .ok (.iconst 0, 1) := by decide +kernel
theorem dX6_seek_1 : decode cX6_seek 1 = .ok (.istore_n 3, 1) := by decide +kernel
theorem dX6_seek_2 : decode cX6_seek 2 = .ok (.iload_n 3, 1) := by decide +kernel
theorem dX6_seek_3 : decode cX6_seek 3 = .ok (.iload_n 1, 1) := by decide +kernel
theorem dX6_seek_4 : decode cX6_seek 4 = .ok (.if_icmp .ge 16, 3) := by decide +kernel
theorem dX6_seek_7 : decode cX6_seek 7 = .ok (.aload_n 0, 1) := by decide +kernel
theorem dX6_seek_8 : decode cX6_seek 8 = .ok (.getfield 15, 3) := by decide +kernel
theorem dX6_seek_11 : decode cX6_seek 11 = .ok (.iload_n 3, 1) := by decide +kernel
theorem dX6_seek_12 : decode cX6_seek 12 = .ok (.iload_n 3, 1) := by decide +kernel
theorem dX6_seek_13 : decode cX6_seek 13 = .ok (.iastore, 1) := by decide +kernel
theorem dX6_seek_14 : decode cX6_seek 14 = .ok (.iinc 3 1, 3) := by decide +kernel
theorem dX6_seek_17 : decode cX6_seek 17 = .ok (.goto (-15), 3) := by decide +kernel
theorem dX6_seek_20 : decode cX6_seek 20 = .ok (.aload_n 0, 1) := by decide +kernel
theorem dX6_seek_21 : decode cX6_seek 21 = .ok (.aload_n 0, 1) := by decide +kernel
theorem dX6_seek_22 : decode cX6_seek 22 = .ok (.iload_n 1, 1) := by decide +kernel
theorem dX6_seek_23 : decode cX6_seek 23 = .ok (.invokevirtual 18, 3) := by decide +kernel
theorem dX6_seek_26 : decode cX6_seek 26 = .ok (.putfield 22, 3) := by decide +kernel
theorem dX6_seek_29 : decode cX6_seek 29 = .ok (.aload_n 0, 1) := by decide +kernel
theorem dX6_seek_30 : decode cX6_seek 30 = .ok (.aload_n 0, 1) := by decide +kernel
theorem dX6_seek_31 : decode cX6_seek 31 = .ok (.iload_n 1, 1) := by decide +kernel
theorem dX6_seek_32 : decode cX6_seek 32 = .ok (.iload_n 2, 1) := by decide +kernel
theorem dX6_seek_33 : decode cX6_seek 33 = .ok (.invokevirtual 26, 3) := by decide +kernel
theorem dX6_seek_36 : decode cX6_seek 36 = .ok (.putfield 30, 3) := by decide +kernel
theorem dX6_seek_39 : decode cX6_seek 39 = .ok (.iconst 1, 1) := by decide +kernel
theorem dX6_seek_40 : decode cX6_seek 40 = .ok (.istore_n 3, 1) := by decide +kernel
theorem dX6_seek_41 : decode cX6_seek 41 = .ok (.iload_n 3, 1) := by decide +kernel
theorem dX6_seek_42 : decode cX6_seek 42 = .ok (.sipush 720, 3) := by decide +kernel
theorem dX6_seek_45 : decode cX6_seek 45 = .ok (.if_icmp .ge 49, 3) := by decide +kernel
theorem dX6_seek_48 : decode cX6_seek 48 = .ok (.aload_n 0, 1) := by decide +kernel
theorem dX6_seek_49 : decode cX6_seek 49 = .ok (.iload_n 1, 1) := by decide +kernel
theorem dX6_seek_50 : decode cX6_seek 50 = .ok (.invokevirtual 33, 3) := by decide +kernel
theorem dX6_seek_53 : decode cX6_seek 53 = .ok (.ifCond .eq 41, 3) := by decide +kernel
theorem dX6_seek_56 : decode cX6_seek 56 = .ok (.aload_n 0, 1) := by decide +kernel
theorem dX6_seek_57 : decode cX6_seek 57 = .ok (.iload_n 1, 1) := by decide +kernel
theorem dX6_seek_58 : decode cX6_seek 58 = .ok (.iload_n 2, 1) := by decide +kernel
theorem dX6_seek_59 : decode cX6_seek 59 = .ok (.invokevirtual 26, 3) := by decide +kernel
theorem dX6_seek_62 : decode cX6_seek 62 = .ok (.istore 4, 2) := by decide +kernel
theorem dX6_seek_64 : decode cX6_seek 64 = .ok (.iload 4, 2) := by decide +kernel
theorem dX6_seek_66 : decode cX6_seek 66 = .ok (.aload_n 0, 1) := by decide +kernel
theorem dX6_seek_67 : decode cX6_seek 67 = .ok (.getfield 30, 3) := by decide +kernel
theorem dX6_seek_70 : decode cX6_seek 70 = .ok (.if_icmp .le 18, 3) := by decide +kernel
theorem dX6_seek_73 : decode cX6_seek 73 = .ok (.aload_n 0, 1) := by decide +kernel
theorem dX6_seek_74 : decode cX6_seek 74 = .ok (.iload 4, 2) := by decide +kernel
theorem dX6_seek_76 : decode cX6_seek 76 = .ok (.putfield 30, 3) := by decide +kernel
theorem dX6_seek_79 : decode cX6_seek 79 = .ok (.aload_n 0, 1) := by decide +kernel
theorem dX6_seek_80 : decode cX6_seek 80 = .ok (.aload_n 0, 1) := by decide +kernel
theorem dX6_seek_81 : decode cX6_seek 81 = .ok (.iload_n 1, 1) := by decide +kernel
theorem dX6_seek_82 : decode cX6_seek 82 = .ok (.invokevirtual 18, 3) := by decide +kernel
theorem dX6_seek_85 : decode cX6_seek 85 = .ok (.putfield 22, 3) := by decide +kernel
theorem dX6_seek_88 : decode cX6_seek 88 = .ok (.iinc 3 1, 3) := by decide +kernel
theorem dX6_seek_91 : decode cX6_seek 91 = .ok (.goto (-50), 3) := by decide +kernel
theorem dX6_seek_94 : decode cX6_seek 94 = .ok (.return_, 1) := by decide +kernel
def kX6_seek_0 (g : sk_G) (d ck sk : Nat) (Q : sk_P) : sk_K := o_i (0) (o_istore 3 (sk_B (g, d, ck, sk, xX6_seek, Q) 2))
theorem tX6_seek_0 {g : sk_G} {d ck sk : Nat} {Q : sk_P} : sk_S (g, d, ck, sk, xX6_seek, Q) 0 (kX6_seek_0 g d ck sk Q) := s_iconst dX6_seek_0 (s_istore_n dX6_seek_1 rfl (by decide : 3 < 5) (sk_id))
set_option maxRecDepth 20000 in
def kX6_seek_2 (g : sk_G) (d ck sk : Nat) (Q : sk_P) : sk_K := o_iload 3 (o_iload 1 (o_icge (o_aload 0 (o_aload 0 (o_iload 1 (o_invB (g, d, ck, sk, xX6_seek, Q) xX6_asDigits 1 6 0 0 (o_puti 6 2 (o_aload 0 (o_aload 0 (o_iload 1 (o_iload 2 (o_invB (g, d, ck, sk, xX6_seek, Q) xX6_sumOf 2 6 0 0 (o_puti 6 3 (o_i (1) (o_istore 3 (sk_B (g, d, ck, sk, xX6_seek, Q) 41)))))))))))))) (o_aload 0 (o_getf 6 1 (o_iload 3 (o_iload 3 (o_iastore (o_iinc 3 (1) (sk_B (g, d, ck, sk, xX6_seek, Q) 2)))))))))
set_option maxRecDepth 20000 in
theorem tX6_seek_2 {g : sk_G} {d ck sk : Nat} {Q : sk_P} : sk_S (g, d, ck, sk, xX6_seek, Q) 2 (kX6_seek_2 g d ck sk Q) := s_iload_n dX6_seek_2 rfl (s_iload_n dX6_seek_3 rfl (s_icge (tgt := 20) dX6_seek_4 (by decide) (s_aload_n dX6_seek_20 rfl (s_aload_n dX6_seek_21 rfl (s_iload_n dX6_seek_22 rfl (s_invB (w' := (g, d, ck, sk, xX6_seek, Q)) (ci := 6) (ck := 0) (sk := 0) (T := TX6) (N := 4) dX6_seek_23 m_X6_asDigits rfl (by decide) qm_X6_18 qi_X6_asDigits qe_X6_asDigits rfl (s_puti (ci := 6) (j := 2) (C := RX6) (T := TX6) (N := 4) dX6_seek_26 rfl (by decide) (by decide) rfl (tyX6_ok 2 (by decide)) qf_X6_22 (s_aload_n dX6_seek_29 rfl (s_aload_n dX6_seek_30 rfl (s_iload_n dX6_seek_31 rfl (s_iload_n dX6_seek_32 rfl (s_invB (w' := (g, d, ck, sk, xX6_seek, Q)) (ci := 6) (ck := 0) (sk := 0) (T := TX6) (N := 4) dX6_seek_33 m_X6_sumOf rfl (by decide) qm_X6_26 qi_X6_sumOf qe_X6_sumOf rfl (s_puti (ci := 6) (j := 3) (C := RX6) (T := TX6) (N := 4) dX6_seek_36 rfl (by decide) (by decide) rfl (tyX6_ok 3 (by decide)) qf_X6_30 (s_iconst dX6_seek_39 (s_istore_n dX6_seek_40 rfl (by decide : 3 < 5) (sk_id)))))))))))))) (s_aload_n dX6_seek_7 rfl (s_getf (ci := 6) (j := 1) (C := RX6) (T := TX6) (N := 4) dX6_seek_8 rfl (by decide) (by decide) qf_X6_15 (s_iload_n dX6_seek_11 rfl (s_iload_n dX6_seek_12 rfl (s_iastore dX6_seek_13 (s_iinc dX6_seek_14 (by decide : 3 < 5) (s_goto (tgt := 2) dX6_seek_17 (by decide) (sk_id))))))))))
set_option maxRecDepth 20000 in
def kX6_seek_41 (g : sk_G) (d ck sk : Nat) (Q : sk_P) : sk_K := o_iload 3 (o_i (720) (o_icge (o_ret (g, d, ck, sk, xX6_seek, Q)) (o_aload 0 (o_iload 1 (o_invB (g, d, ck, sk, xX6_seek, Q) xX6_goOn 1 6 0 0 (o_ifeq (o_ret (g, d, ck, sk, xX6_seek, Q)) (o_aload 0 (o_iload 1 (o_iload 2 (o_invB (g, d, ck, sk, xX6_seek, Q) xX6_sumOf 2 6 0 0 (o_istore 4 (o_iload 4 (o_aload 0 (o_getf 6 3 (o_icle (o_iinc 3 (1) (sk_B (g, d, ck, sk, xX6_seek, Q) 41)) (o_aload 0 (o_iload 4 (o_puti 6 3 (o_aload 0 (o_aload 0 (o_iload 1 (o_invB (g, d, ck, sk, xX6_seek, Q) xX6_asDigits 1 6 0 0 (o_puti 6 2 (o_iinc 3 (1) (sk_B (g, d, ck, sk, xX6_seek, Q) 41)))))))))))))))))))))))))
set_option maxRecDepth 20000 in
theorem tX6_seek_41 {g : sk_G} {d ck sk : Nat} {Q : sk_P} : sk_S (g, d, ck, sk, xX6_seek, Q) 41 (kX6_seek_41 g d ck sk Q) := s_iload_n dX6_seek_41 rfl (s_sipush dX6_seek_42 rfl (s_icge (tgt := 94) dX6_seek_45 (by decide) (s_ret dX6_seek_94 rfl) (s_aload_n dX6_seek_48 rfl (s_iload_n dX6_seek_49 rfl (s_invB (w' := (g, d, ck, sk, xX6_seek, Q)) (ci := 6) (ck := 0) (sk := 0) (T := TX6) (N := 4) dX6_seek_50 m_X6_goOn rfl (by decide) qm_X6_33 qi_X6_goOn qe_X6_goOn rfl (s_ifeq (tgt := 94) dX6_seek_53 (by decide) (s_ret dX6_seek_94 rfl) (s_aload_n dX6_seek_56 rfl (s_iload_n dX6_seek_57 rfl (s_iload_n dX6_seek_58 rfl (s_invB (w' := (g, d, ck, sk, xX6_seek, Q)) (ci := 6) (ck := 0) (sk := 0) (T := TX6) (N := 4) dX6_seek_59 m_X6_sumOf rfl (by decide) qm_X6_26 qi_X6_sumOf qe_X6_sumOf rfl (s_istore dX6_seek_62 (by decide : 4 < 5) (s_iload dX6_seek_64 (s_aload_n dX6_seek_66 rfl (s_getf (ci := 6) (j := 3) (C := RX6) (T := TX6) (N := 4) dX6_seek_67 rfl (by decide) (by decide) qf_X6_30 (s_icle (tgt := 88) dX6_seek_70 (by decide) (s_iinc dX6_seek_88 (by decide : 3 < 5) (s_goto (tgt := 41) dX6_seek_91 (by decide) (sk_id))) (s_aload_n dX6_seek_73 rfl (s_iload dX6_seek_74 (s_puti (ci := 6) (j := 3) (C := RX6) (T := TX6) (N := 4) dX6_seek_76 rfl (by decide) (by decide) rfl (tyX6_ok 3 (by decide)) qf_X6_30 (s_aload_n dX6_seek_79 rfl (s_aload_n dX6_seek_80 rfl (s_iload_n dX6_seek_81 rfl (s_invB (w' := (g, d, ck, sk, xX6_seek, Q)) (ci := 6) (ck := 0) (sk := 0) (T := TX6) (N := 4) dX6_seek_82 m_X6_asDigits rfl (by decide) qm_X6_18 qi_X6_asDigits qe_X6_asDigits rfl (s_puti (ci := 6) (j := 2) (C := RX6) (T := TX6) (N := 4) dX6_seek_85 rfl (by decide) (by decide) rfl (tyX6_ok 2 (by decide)) qf_X6_22 (s_iinc dX6_seek_88 (by decide : 3 < 5) (s_goto (tgt := 41) dX6_seek_91 (by decide) (sk_id))))))))))))))))))))))))))
theorem dX6_asDigits_0 : decode cX6_asDigits 0 = .ok (.iconst 0, 1) := by decide +kernel
theorem dX6_asDigits_1 : decode cX6_asDigits 1 = .ok (.istore_n 2, 1) := by decide +kernel
theorem dX6_asDigits_2 : decode cX6_asDigits 2 = .ok (.iconst 0, 1) := by decide +kernel
theorem dX6_asDigits_3 : decode cX6_asDigits 3 = .ok (.istore_n 3, 1) := by decide +kernel
theorem dX6_asDigits_4 : decode cX6_asDigits 4 = .ok (.iload_n 3, 1) := by decide +kernel
theorem dX6_asDigits_5 : decode cX6_asDigits 5 = .ok (.iload_n 1, 1) := by decide +kernel
theorem dX6_asDigits_6 : decode cX6_asDigits 6 = .ok (.if_icmp .ge 21, 3) := by decide +kernel
theorem dX6_asDigits_9 : decode cX6_asDigits 9 = .ok (.bipush 10, 2) := by decide +kernel
theorem dX6_asDigits_11 : decode cX6_asDigits 11 = .ok (.iload_n 2, 1) := by decide +kernel
theorem dX6_asDigits_12 : decode cX6_asDigits 12 = .ok (.imul, 1) := by decide +kernel
theorem dX6_asDigits_13 : decode cX6_asDigits 13 = .ok (.aload_n 0, 1) := by decide +kernel
theorem dX6_asDigits_14 : decode cX6_asDigits 14 = .ok (.getfield 15, 3) := by decide +kernel
theorem dX6_asDigits_17 : decode cX6_asDigits 17 = .ok (.iload_n 3, 1) := by decide +kernel
theorem dX6_asDigits_18 : decode cX6_asDigits 18 = .ok (.iaload, 1) := by decide +kernel
theorem dX6_asDigits_19 : decode cX6_asDigits 19 = .ok (.iadd, 1) := by decide +kernel
theorem dX6_asDigits_20 : decode cX6_asDigits 20 = .ok (.istore_n 2, 1) := by decide +kernel
theorem dX6_asDigits_21 : decode cX6_asDigits 21 = .ok (.iinc 3 1, 3) := by decide +kernel
theorem dX6_asDigits_24 : decode cX6_asDigits 24 = .ok (.goto (-20), 3) := by decide +kernel
theorem dX6_asDigits_27 : decode cX6_asDigits 27 = .ok (.iload_n 2, 1) := by decide +kernel
theorem dX6_asDigits_28 : decode cX6_asDigits 28 = .ok (.ireturn, 1) := by decide +kernel
def kX6_asDigits_0 (g : sk_G) (d ck sk : Nat) (Q : sk_P) : sk_K := o_i (0) (o_istore 2 (o_i (0) (o_istore 3 (sk_B (g, d, ck, sk, xX6_asDigits, Q) 4))))
theorem tX6_asDigits_0 {g : sk_G} {d ck sk : Nat} {Q : sk_P} : sk_S (g, d, ck, sk, xX6_asDigits, Q) 0 (kX6_asDigits_0 g d ck sk Q) := s_iconst dX6_asDigits_0 (s_istore_n dX6_asDigits_1 rfl (by decide : 2 < 4) (s_iconst dX6_asDigits_2 (s_istore_n dX6_asDigits_3 rfl (by decide : 3 < 4) (sk_id))))
def kX6_asDigits_4 (g : sk_G) (d ck sk : Nat) (Q : sk_P) : sk_K := o_iload 3 (o_iload 1 (o_icge (o_iload 2 (o_iret (g, d, ck, sk, xX6_asDigits, Q))) (o_i (10) (o_iload 2 (o_imul (o_aload 0 (o_getf 6 1 (o_iload 3 (o_iaload (o_iadd (o_istore 2 (o_iinc 3 (1) (sk_B (g, d, ck, sk, xX6_asDigits, Q) 4)))))))))))))
theorem tX6_asDigits_4 {g : sk_G} {d ck sk : Nat} {Q : sk_P} : sk_S (g, d, ck, sk, xX6_asDigits, Q) 4 (kX6_asDigits_4 g d ck sk Q) := s_iload_n dX6_asDigits_4 rfl (s_iload_n dX6_asDigits_5 rfl (s_icge (tgt := 27) dX6_asDigits_6 (by decide) (s_iload_n dX6_asDigits_27 rfl (s_iret dX6_asDigits_28 rfl)) (s_bipush dX6_asDigits_9 rfl (s_iload_n dX6_asDigits_11 rfl (s_imul dX6_asDigits_12 (s_aload_n dX6_asDigits_13 rfl (s_getf (ci := 6) (j := 1) (C := RX6) (T := TX6) (N := 4) dX6_asDigits_14 rfl (by decide) (by decide) qf_X6_15 (s_iload_n dX6_asDigits_17 rfl (s_iaload dX6_asDigits_18 (s_iadd dX6_asDigits_19 (s_istore_n dX6_asDigits_20 rfl (by decide : 2 < 4) (s_iinc dX6_asDigits_21 (by decide : 3 < 4) (s_goto (tgt := 4) dX6_asDigits_24 (by decide) (sk_id))))))))))))))
theorem dX6_sumOf_0 : decode cX6_sumOf 0 = .ok (.iconst 0, 1) := by decide +kernel
theorem dX6_sumOf_1 : decode cX6_sumOf 1 = .ok (.istore_n 3, 1) := by decide +kernel
theorem dX6_sumOf_2 : decode cX6_sumOf 2 = .ok (.iconst 0, 1) := by decide +kernel
theorem dX6_sumOf_3 : decode cX6_sumOf 3 = .ok (.istore 4, 2) := by decide +kernel
theorem dX6_sumOf_5 : decode cX6_sumOf 5 = .ok (.iload 4, 2) := by decide +kernel
theorem dX6_sumOf_7 : decode cX6_sumOf 7 = .ok (.iload_n 1, 1) := by decide +kernel
theorem dX6_sumOf_8 : decode cX6_sumOf 8 = .ok (.if_icmp .ge 72, 3) := by decide +kernel
theorem dX6_sumOf_11 : decode cX6_sumOf 11 = .ok (.iload_n 2, 1) := by decide +kernel
theorem dX6_sumOf_12 : decode cX6_sumOf 12 = .ok (.ifCond .eq 14, 3) := by decide +kernel
theorem dX6_sumOf_15 : decode cX6_sumOf 15 = .ok (.iload_n 1, 1) := by decide +kernel
theorem dX6_sumOf_16 : decode cX6_sumOf 16 = .ok (.iload 4, 2) := by decide +kernel
theorem dX6_sumOf_18 : decode cX6_sumOf 18 = .ok (.iconst 2, 1) := by decide +kernel
theorem dX6_sumOf_19 : decode cX6_sumOf 19 = .ok (.iadd, 1) := by decide +kernel
theorem dX6_sumOf_20 : decode cX6_sumOf 20 = .ok (.invokestatic 37, 3) := by decide +kernel
theorem dX6_sumOf_23 : decode cX6_sumOf 23 = .ok (.goto 4, 3) := by decide +kernel
theorem dX6_sumOf_26 : decode cX6_sumOf 26 = .ok (.iload_n 1, 1) := by decide +kernel
theorem dX6_sumOf_27 : decode cX6_sumOf 27 = .ok (.istore 5, 2) := by decide +kernel
theorem dX6_sumOf_29 : decode cX6_sumOf 29 = .ok (.iload 4, 2) := by decide +kernel
theorem dX6_sumOf_31 : decode cX6_sumOf 31 = .ok (.iconst 1, 1) := by decide +kernel
theorem dX6_sumOf_32 : decode cX6_sumOf 32 = .ok (.iadd, 1) := by decide +kernel
theorem dX6_sumOf_33 : decode cX6_sumOf 33 = .ok (.istore 6, 2) := by decide +kernel
theorem dX6_sumOf_35 : decode cX6_sumOf 35 = .ok (.iload 6, 2) := by decide +kernel
theorem dX6_sumOf_37 : decode cX6_sumOf 37 = .ok (.iload 5, 2) := by decide +kernel
theorem dX6_sumOf_39 : decode cX6_sumOf 39 = .ok (.if_icmp .ge 35, 3) := by decide +kernel
theorem dX6_sumOf_42 : decode cX6_sumOf 42 = .ok (.iload_n 3, 1) := by decide +kernel
theorem dX6_sumOf_43 : decode cX6_sumOf 43 = .ok (.aload_n 0, 1) := by decide +kernel
theorem dX6_sumOf_44 : decode cX6_sumOf 44 = .ok (.getfield 9, 3) := by decide +kernel
theorem dX6_sumOf_47 : decode cX6_sumOf 47 = .ok (.bipush 6, 2) := by decide +kernel
theorem dX6_sumOf_49 : decode cX6_sumOf 49 = .ok (.aload_n 0, 1) := by decide +kernel
theorem dX6_sumOf_50 : decode cX6_sumOf 50 = .ok (.getfield 15, 3) := by decide +kernel
theorem dX6_sumOf_53 : decode cX6_sumOf 53 = .ok (.iload 4, 2) := by decide +kernel
theorem dX6_sumOf_55 : decode cX6_sumOf 55 = .ok (.iaload, 1) := by decide +kernel
theorem dX6_sumOf_56 : decode cX6_sumOf 56 = .ok (.imul, 1) := by decide +kernel
theorem dX6_sumOf_57 : decode cX6_sumOf 57 = .ok (.aload_n 0, 1) := by decide +kernel
theorem dX6_sumOf_58 : decode cX6_sumOf 58 = .ok (.getfield 15, 3) := by decide +kernel
theorem dX6_sumOf_61 : decode cX6_sumOf 61 = .ok (.iload 6, 2) := by decide +kernel
theorem dX6_sumOf_63 : decode cX6_sumOf 63 = .ok (.iaload, 1) := by decide +kernel
theorem dX6_sumOf_64 : decode cX6_sumOf 64 = .ok (.iadd, 1) := by decide +kernel
theorem dX6_sumOf_65 : decode cX6_sumOf 65 = .ok (.iaload, 1) := by decide +kernel
theorem dX6_sumOf_66 : decode cX6_sumOf 66 = .ok (.iadd, 1) := by decide +kernel
theorem dX6_sumOf_67 : decode cX6_sumOf 67 = .ok (.istore_n 3, 1) := by decide +kernel
theorem dX6_sumOf_68 : decode cX6_sumOf 68 = .ok (.iinc 6 1, 3) := by decide +kernel
theorem dX6_sumOf_71 : decode cX6_sumOf 71 = .ok (.goto (-36), 3) := by decide +kernel
theorem dX6_sumOf_74 : decode cX6_sumOf 74 = .ok (.iinc 4 1, 3) := by decide +kernel
theorem dX6_sumOf_77 : decode cX6_sumOf 77 = .ok (.goto (-72), 3) := by decide +kernel
theorem dX6_sumOf_80 : decode cX6_sumOf 80 = .ok (.iload_n 3, 1) := by decide +kernel
theorem dX6_sumOf_81 : decode cX6_sumOf 81 = .ok (.ireturn, 1) := by decide +kernel
def kX6_sumOf_0 (g : sk_G) (d ck sk : Nat) (Q : sk_P) : sk_K := o_i (0) (o_istore 3 (o_i (0) (o_istore 4 (sk_B (g, d, ck, sk, xX6_sumOf, Q) 5))))
theorem tX6_sumOf_0 {g : sk_G} {d ck sk : Nat} {Q : sk_P} : sk_S (g, d, ck, sk, xX6_sumOf, Q) 0 (kX6_sumOf_0 g d ck sk Q) := s_iconst dX6_sumOf_0 (s_istore_n dX6_sumOf_1 rfl (by decide : 3 < 7) (s_iconst dX6_sumOf_2 (s_istore dX6_sumOf_3 (by decide : 4 < 7) (sk_id))))
set_option maxRecDepth 20000 in
def kX6_sumOf_5 (g : sk_G) (d ck sk : Nat) (Q : sk_P) : sk_K := o_iload 4 (o_iload 1 (o_icge (o_iload 3 (o_iret (g, d, ck, sk, xX6_sumOf, Q))) (o_iload 2 (o_ifeq (o_iload 1 (o_istore 5 (o_iload 4 (o_i (1) (o_iadd (o_istore 6 (sk_B (g, d, ck, sk, xX6_sumOf, Q) 35))))))) (o_iload 1 (o_iload 4 (o_i (2) (o_iadd (o_min (g, d, ck, sk, xX6_sumOf, Q) (o_istore 5 (o_iload 4 (o_i (1) (o_iadd (o_istore 6 (sk_B (g, d, ck, sk, xX6_sumOf, Q) 35)))))))))))))))
set_option maxRecDepth 20000 in
theorem tX6_sumOf_5 {g : sk_G} {d ck sk : Nat} {Q : sk_P} : sk_S (g, d, ck, sk, xX6_sumOf, Q) 5 (kX6_sumOf_5 g d ck sk Q) := s_iload dX6_sumOf_5 (s_iload_n dX6_sumOf_7 rfl (s_icge (tgt := 80) dX6_sumOf_8 (by decide) (s_iload_n dX6_sumOf_80 rfl (s_iret dX6_sumOf_81 rfl)) (s_iload_n dX6_sumOf_11 rfl (s_ifeq (tgt := 26) dX6_sumOf_12 (by decide) (s_iload_n dX6_sumOf_26 rfl (s_istore dX6_sumOf_27 (by decide : 5 < 7) (s_iload dX6_sumOf_29 (s_iconst dX6_sumOf_31 (s_iadd dX6_sumOf_32 (s_istore dX6_sumOf_33 (by decide : 6 < 7) (sk_id))))))) (s_iload_n dX6_sumOf_15 rfl (s_iload dX6_sumOf_16 (s_iconst dX6_sumOf_18 (s_iadd dX6_sumOf_19 (s_min dX6_sumOf_20 qm_X6_37 qs_Mmin qz_J9 qc_Mmin (s_goto (tgt := 27) dX6_sumOf_23 (by decide) (s_istore dX6_sumOf_27 (by decide : 5 < 7) (s_iload dX6_sumOf_29 (s_iconst dX6_sumOf_31 (s_iadd dX6_sumOf_32 (s_istore dX6_sumOf_33 (by decide : 6 < 7) (sk_id))))))))))))))))
set_option maxRecDepth 20000 in
def kX6_sumOf_35 (g : sk_G) (d ck sk : Nat) (Q : sk_P) : sk_K := o_iload 6 (o_iload 5 (o_icge (o_iinc 4 (1) (sk_B (g, d, ck, sk, xX6_sumOf, Q) 5)) (o_iload 3 (o_aload 0 (o_getf 6 0 (o_i (6) (o_aload 0 (o_getf 6 1 (o_iload 4 (o_iaload (o_imul (o_aload 0 (o_getf 6 1 (o_iload 6 (o_iaload (o_iadd (o_iaload (o_iadd (o_istore 3 (o_iinc 6 (1) (sk_B (g, d, ck, sk, xX6_sumOf, Q) 35)))))))))))))))))))))
set_option maxRecDepth 20000 in
theorem tX6_sumOf_35 {g : sk_G} {d ck sk : Nat} {Q : sk_P} : sk_S (g, d, ck, sk, xX6_sumOf, Q) 35 (kX6_sumOf_35 g d ck sk Q) := s_iload dX6_sumOf_35 (s_iload dX6_sumOf_37 (s_icge (tgt := 74) dX6_sumOf_39 (by decide) (s_iinc dX6_sumOf_74 (by decide : 4 < 7) (s_goto (tgt := 5) dX6_sumOf_77 (by decide) (sk_id))) (s_iload_n dX6_sumOf_42 rfl (s_aload_n dX6_sumOf_43 rfl (s_getf (ci := 6) (j := 0) (C := RX6) (T := TX6) (N := 4) dX6_sumOf_44 rfl (by decide) (by decide) qf_X6_9 (s_bipush dX6_sumOf_47 rfl (s_aload_n dX6_sumOf_49 rfl (s_getf (ci := 6) (j := 1) (C := RX6) (T := TX6) (N := 4) dX6_sumOf_50 rfl (by decide) (by decide) qf_X6_15 (s_iload dX6_sumOf_53 (s_iaload dX6_sumOf_55 (s_imul dX6_sumOf_56 (s_aload_n dX6_sumOf_57 rfl (s_getf (ci := 6) (j := 1) (C := RX6) (T := TX6) (N := 4) dX6_sumOf_58 rfl (by decide) (by decide) qf_X6_15 (s_iload dX6_sumOf_61 (s_iaload dX6_sumOf_63 (s_iadd dX6_sumOf_64 (s_iaload dX6_sumOf_65 (s_iadd dX6_sumOf_66 (s_istore_n dX6_sumOf_67 rfl (by decide : 3 < 7) (s_iinc dX6_sumOf_68 (by decide : 6 < 7) (s_goto (tgt := 35) dX6_sumOf_71 (by decide) (sk_id))))))))))))))))))))))
theorem dX6_goOn_0 : decode cX6_goOn 0 = .ok (.iload_n 1, 1) := by decide +kernel
theorem dX6_goOn_1 : decode cX6_goOn 1 = .ok (.iconst 2, 1) := by decide +kernel
theorem dX6_goOn_2 : decode cX6_goOn 2 = .ok (.isub, 1) := by decide +kernel
theorem dX6_goOn_3 : decode cX6_goOn 3 = .ok (.istore_n 2, 1) := by decide +kernel
theorem dX6_goOn_4 : decode cX6_goOn 4 = .ok (.iload_n 2, 1) := by decide +kernel
theorem dX6_goOn_5 : decode cX6_goOn 5 = .ok (.ifCond .lt 26, 3) := by decide +kernel
theorem dX6_goOn_8 : decode cX6_goOn 8 = .ok (.aload_n 0, 1) := by decide +kernel
theorem dX6_goOn_9 : decode cX6_goOn 9 = .ok (.getfield 15, 3) := by decide +kernel
theorem dX6_goOn_12 : decode cX6_goOn 12 = .ok (.iload_n 2, 1) := by decide +kernel
theorem dX6_goOn_13 : decode cX6_goOn 13 = .ok (.iaload, 1) := by decide +kernel
theorem dX6_goOn_14 : decode cX6_goOn 14 = .ok (.aload_n 0, 1) := by decide +kernel
theorem dX6_goOn_15 : decode cX6_goOn 15 = .ok (.getfield 15, 3) := by decide +kernel
theorem dX6_goOn_18 : decode cX6_goOn 18 = .ok (.iload_n 2, 1) := by decide +kernel
theorem dX6_goOn_19 : decode cX6_goOn 19 = .ok (.iconst 1, 1) := by decide +kernel
theorem dX6_goOn_20 : decode cX6_goOn 20 = .ok (.iadd, 1) := by decide +kernel
theorem dX6_goOn_21 : decode cX6_goOn 21 = .ok (.iaload, 1) := by decide +kernel
theorem dX6_goOn_22 : decode cX6_goOn 22 = .ok (.if_icmp .le 9, 3) := by decide +kernel
theorem dX6_goOn_25 : decode cX6_goOn 25 = .ok (.iinc 2 (-1), 3) := by decide +kernel
theorem dX6_goOn_28 : decode cX6_goOn 28 = .ok (.goto (-24), 3) := by decide +kernel
theorem dX6_goOn_31 : decode cX6_goOn 31 = .ok (.iload_n 2, 1) := by decide +kernel
theorem dX6_goOn_32 : decode cX6_goOn 32 = .ok (.ifCond .ge 5, 3) := by decide +kernel
theorem dX6_goOn_35 : decode cX6_goOn 35 = .ok (.iconst 0, 1) := by decide +kernel
theorem dX6_goOn_36 : decode cX6_goOn 36 = .ok (.ireturn, 1) := by decide +kernel
theorem dX6_goOn_37 : decode cX6_goOn 37 = .ok (.iload_n 1, 1) := by decide +kernel
theorem dX6_goOn_38 : decode cX6_goOn 38 = .ok (.iconst 1, 1) := by decide +kernel
theorem dX6_goOn_39 : decode cX6_goOn 39 = .ok (.isub, 1) := by decide +kernel
theorem dX6_goOn_40 : decode cX6_goOn 40 = .ok (.istore_n 3, 1) := by decide +kernel
theorem dX6_goOn_41 : decode cX6_goOn 41 = .ok (.iload_n 3, 1) := by decide +kernel
theorem dX6_goOn_42 : decode cX6_goOn 42 = .ok (.iload_n 2, 1) := by decide +kernel
theorem dX6_goOn_43 : decode cX6_goOn 43 = .ok (.if_icmp .le 24, 3) := by decide +kernel
theorem dX6_goOn_46 : decode cX6_goOn 46 = .ok (.aload_n 0, 1) := by decide +kernel
theorem dX6_goOn_47 : decode cX6_goOn 47 = .ok (.getfield 15, 3) := by decide +kernel
theorem dX6_goOn_50 : decode cX6_goOn 50 = .ok (.iload_n 3, 1) := by decide +kernel
theorem dX6_goOn_51 : decode cX6_goOn 51 = .ok (.iaload, 1) := by decide +kernel
theorem dX6_goOn_52 : decode cX6_goOn 52 = .ok (.aload_n 0, 1) := by decide +kernel
theorem dX6_goOn_53 : decode cX6_goOn 53 = .ok (.getfield 15, 3) := by decide +kernel
theorem dX6_goOn_56 : decode cX6_goOn 56 = .ok (.iload_n 2, 1) := by decide +kernel
theorem dX6_goOn_57 : decode cX6_goOn 57 = .ok (.iaload, 1) := by decide +kernel
theorem dX6_goOn_58 : decode cX6_goOn 58 = .ok (.if_icmp .ge 9, 3) := by decide +kernel
theorem dX6_goOn_61 : decode cX6_goOn 61 = .ok (.iinc 3 (-1), 3) := by decide +kernel
theorem dX6_goOn_64 : decode cX6_goOn 64 = .ok (.goto (-23), 3) := by decide +kernel
theorem dX6_goOn_67 : decode cX6_goOn 67 = .ok (.aload_n 0, 1) := by decide +kernel
theorem dX6_goOn_68 : decode cX6_goOn 68 = .ok (.iload_n 2, 1) := by decide +kernel
theorem dX6_goOn_69 : decode cX6_goOn 69 = .ok (.iload_n 3, 1) := by decide +kernel
theorem dX6_goOn_70 : decode cX6_goOn 70 = .ok (.invokevirtual 43, 3) := by decide +kernel
theorem dX6_goOn_73 : decode cX6_goOn 73 = .ok (.iload_n 2, 1) := by decide +kernel
theorem dX6_goOn_74 : decode cX6_goOn 74 = .ok (.iconst 1, 1) := by decide +kernel
theorem dX6_goOn_75 : decode cX6_goOn 75 = .ok (.iadd, 1) := by decide +kernel
theorem dX6_goOn_76 : decode cX6_goOn 76 = .ok (.istore 4, 2) := by decide +kernel
theorem dX6_goOn_78 : decode cX6_goOn 78 = .ok (.iload_n 1, 1) := by decide +kernel
theorem dX6_goOn_79 : decode cX6_goOn 79 = .ok (.iconst 1, 1) := by decide +kernel
theorem dX6_goOn_80 : decode cX6_goOn 80 = .ok (.isub, 1) := by decide +kernel
theorem dX6_goOn_81 : decode cX6_goOn 81 = .ok (.istore 5, 2) := by decide +kernel
theorem dX6_goOn_83 : decode cX6_goOn 83 = .ok (.iload 4, 2) := by decide +kernel
theorem dX6_goOn_85 : decode cX6_goOn 85 = .ok (.iload 5, 2) := by decide +kernel
theorem dX6_goOn_87 : decode cX6_goOn 87 = .ok (.if_icmp .ge 20, 3) := by decide +kernel
theorem dX6_goOn_90 : decode cX6_goOn 90 = .ok (.aload_n 0, 1) := by decide +kernel
theorem dX6_goOn_91 : decode cX6_goOn 91 = .ok (.iload 4, 2) := by decide +kernel
theorem dX6_goOn_93 : decode cX6_goOn 93 = .ok (.iload 5, 2) := by decide +kernel
theorem dX6_goOn_95 : decode cX6_goOn 95 = .ok (.invokevirtual 43, 3) := by decide +kernel
theorem dX6_goOn_98 : decode cX6_goOn 98 = .ok (.iinc 4 1, 3) := by decide +kernel
theorem dX6_goOn_101 : decode cX6_goOn 101 = .ok (.iinc 5 (-1), 3) := by decide +kernel
theorem dX6_goOn_104 : decode cX6_goOn 104 = .ok (.goto (-21), 3) := by decide +kernel
theorem dX6_goOn_107 : decode cX6_goOn 107 = .ok (.iconst 1, 1) := by decide +kernel
theorem dX6_goOn_108 : decode cX6_goOn 108 = .ok (.ireturn, 1) := by decide +kernel
def kX6_goOn_0 (g : sk_G) (d ck sk : Nat) (Q : sk_P) : sk_K := o_iload 1 (o_i (2) (o_isub (o_istore 2 (sk_B (g, d, ck, sk, xX6_goOn, Q) 4))))
theorem tX6_goOn_0 {g : sk_G} {d ck sk : Nat} {Q : sk_P} : sk_S (g, d, ck, sk, xX6_goOn, Q) 0 (kX6_goOn_0 g d ck sk Q) := s_iload_n dX6_goOn_0 rfl (s_iconst dX6_goOn_1 (s_isub dX6_goOn_2 (s_istore_n dX6_goOn_3 rfl (by decide : 2 < 6) (sk_id))))
def kX6_goOn_4 (g : sk_G) (d ck sk : Nat) (Q : sk_P) : sk_K := o_iload 2 (o_iflt (sk_B (g, d, ck, sk, xX6_goOn, Q) 31) (o_aload 0 (o_getf 6 1 (o_iload 2 (o_iaload (o_aload 0 (o_getf 6 1 (o_iload 2 (o_i (1) (o_iadd (o_iaload (o_icle (sk_B (g, d, ck, sk, xX6_goOn, Q) 31) (o_iinc 2 (-1) (sk_B (g, d, ck, sk, xX6_goOn, Q) 4))))))))))))))
theorem tX6_goOn_4 {g : sk_G} {d ck sk : Nat} {Q : sk_P} : sk_S (g, d, ck, sk, xX6_goOn, Q) 4 (kX6_goOn_4 g d ck sk Q) := s_iload_n dX6_goOn_4 rfl (s_iflt (tgt := 31) dX6_goOn_5 (by decide) (sk_id) (s_aload_n dX6_goOn_8 rfl (s_getf (ci := 6) (j := 1) (C := RX6) (T := TX6) (N := 4) dX6_goOn_9 rfl (by decide) (by decide) qf_X6_15 (s_iload_n dX6_goOn_12 rfl (s_iaload dX6_goOn_13 (s_aload_n dX6_goOn_14 rfl (s_getf (ci := 6) (j := 1) (C := RX6) (T := TX6) (N := 4) dX6_goOn_15 rfl (by decide) (by decide) qf_X6_15 (s_iload_n dX6_goOn_18 rfl (s_iconst dX6_goOn_19 (s_iadd dX6_goOn_20 (s_iaload dX6_goOn_21 (s_icle (tgt := 31) dX6_goOn_22 (by decide) (sk_id) (s_iinc dX6_goOn_25 (by decide : 2 < 6) (s_goto (tgt := 4) dX6_goOn_28 (by decide) (sk_id)))))))))))))))
def kX6_goOn_31 (g : sk_G) (d ck sk : Nat) (Q : sk_P) : sk_K := o_iload 2 (o_ifge (o_iload 1 (o_i (1) (o_isub (o_istore 3 (sk_B (g, d, ck, sk, xX6_goOn, Q) 41))))) (o_i (0) (o_zret (g, d, ck, sk, xX6_goOn, Q))))
theorem tX6_goOn_31 {g : sk_G} {d ck sk : Nat} {Q : sk_P} : sk_S (g, d, ck, sk, xX6_goOn, Q) 31 (kX6_goOn_31 g d ck sk Q) := s_iload_n dX6_goOn_31 rfl (s_ifge (tgt := 37) dX6_goOn_32 (by decide) (s_iload_n dX6_goOn_37 rfl (s_iconst dX6_goOn_38 (s_isub dX6_goOn_39 (s_istore_n dX6_goOn_40 rfl (by decide : 3 < 6) (sk_id))))) (s_iconst dX6_goOn_35 (s_zret dX6_goOn_36 rfl)))
def kX6_goOn_41 (g : sk_G) (d ck sk : Nat) (Q : sk_P) : sk_K := o_iload 3 (o_iload 2 (o_icle (sk_B (g, d, ck, sk, xX6_goOn, Q) 67) (o_aload 0 (o_getf 6 1 (o_iload 3 (o_iaload (o_aload 0 (o_getf 6 1 (o_iload 2 (o_iaload (o_icge (sk_B (g, d, ck, sk, xX6_goOn, Q) 67) (o_iinc 3 (-1) (sk_B (g, d, ck, sk, xX6_goOn, Q) 41)))))))))))))
theorem tX6_goOn_41 {g : sk_G} {d ck sk : Nat} {Q : sk_P} : sk_S (g, d, ck, sk, xX6_goOn, Q) 41 (kX6_goOn_41 g d ck sk Q) := s_iload_n dX6_goOn_41 rfl (s_iload_n dX6_goOn_42 rfl (s_icle (tgt := 67) dX6_goOn_43 (by decide) (sk_id) (s_aload_n dX6_goOn_46 rfl (s_getf (ci := 6) (j := 1) (C := RX6) (T := TX6) (N := 4) dX6_goOn_47 rfl (by decide) (by decide) qf_X6_15 (s_iload_n dX6_goOn_50 rfl (s_iaload dX6_goOn_51 (s_aload_n dX6_goOn_52 rfl (s_getf (ci := 6) (j := 1) (C := RX6) (T := TX6) (N := 4) dX6_goOn_53 rfl (by decide) (by decide) qf_X6_15 (s_iload_n dX6_goOn_56 rfl (s_iaload dX6_goOn_57 (s_icge (tgt := 67) dX6_goOn_58 (by decide) (sk_id) (s_iinc dX6_goOn_61 (by decide : 3 < 6) (s_goto (tgt := 41) dX6_goOn_64 (by decide) (sk_id))))))))))))))
set_option maxRecDepth 20000 in
def kX6_goOn_67 (g : sk_G) (d ck sk : Nat) (Q : sk_P) : sk_K := o_aload 0 (o_iload 2 (o_iload 3 (o_invT (g, d, ck, sk, xX6_goOn, Q) 4 2 6 (fun Q => kX6_swap_0 g (d - 1) 0 0 Q) (o_iload 2 (o_i (1) (o_iadd (o_istore 4 (o_iload 1 (o_i (1) (o_isub (o_istore 5 (sk_B (g, d, ck, sk, xX6_goOn, Q) 83))))))))))))
set_option maxRecDepth 20000 in
theorem tX6_goOn_67 {g : sk_G} {d ck sk : Nat} {Q : sk_P} : sk_S (g, d, ck, sk, xX6_goOn, Q) 67 (kX6_goOn_67 g d ck sk Q) := s_aload_n dX6_goOn_67 rfl (s_iload_n dX6_goOn_68 rfl (s_iload_n dX6_goOn_69 rfl (s_invT (X := xX6_swap) (ci := 6) (T := TX6) (N := 4) (K := (fun Q => kX6_swap_0 g (d - 1) 0 0 Q)) (fun _ => tX6_swap_0) rfl dX6_goOn_70 m_X6_swap rfl (by decide) qm_X6_43 qi_X6_swap qe_X6_swap (s_iload_n dX6_goOn_73 rfl (s_iconst dX6_goOn_74 (s_iadd dX6_goOn_75 (s_istore dX6_goOn_76 (by decide : 4 < 6) (s_iload_n dX6_goOn_78 rfl (s_iconst dX6_goOn_79 (s_isub dX6_goOn_80 (s_istore dX6_goOn_81 (by decide : 5 < 6) (sk_id))))))))))))
set_option maxRecDepth 20000 in
def kX6_goOn_83 (g : sk_G) (d ck sk : Nat) (Q : sk_P) : sk_K := o_iload 4 (o_iload 5 (o_icge (o_i (1) (o_zret (g, d, ck, sk, xX6_goOn, Q))) (o_aload 0 (o_iload 4 (o_iload 5 (o_invT (g, d, ck, sk, xX6_goOn, Q) 4 2 6 (fun Q => kX6_swap_0 g (d - 1) 0 0 Q) (o_iinc 4 (1) (o_iinc 5 (-1) (sk_B (g, d, ck, sk, xX6_goOn, Q) 83)))))))))
set_option maxRecDepth 20000 in
theorem tX6_goOn_83 {g : sk_G} {d ck sk : Nat} {Q : sk_P} : sk_S (g, d, ck, sk, xX6_goOn, Q) 83 (kX6_goOn_83 g d ck sk Q) := s_iload dX6_goOn_83 (s_iload dX6_goOn_85 (s_icge (tgt := 107) dX6_goOn_87 (by decide) (s_iconst dX6_goOn_107 (s_zret dX6_goOn_108 rfl)) (s_aload_n dX6_goOn_90 rfl (s_iload dX6_goOn_91 (s_iload dX6_goOn_93 (s_invT (X := xX6_swap) (ci := 6) (T := TX6) (N := 4) (K := (fun Q => kX6_swap_0 g (d - 1) 0 0 Q)) (fun _ => tX6_swap_0) rfl dX6_goOn_95 m_X6_swap rfl (by decide) qm_X6_43 qi_X6_swap qe_X6_swap (s_iinc dX6_goOn_98 (by decide : 4 < 6) (s_iinc dX6_goOn_101 (by decide : 5 < 6) (s_goto (tgt := 83) dX6_goOn_104 (by decide) (sk_id))))))))))
