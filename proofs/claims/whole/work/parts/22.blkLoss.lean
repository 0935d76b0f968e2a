theorem dX3_clear_0 : decode cX3_clear 0 = .ok (.aload_n 0, 1) := by decide +kernel
theorem dX3_clear_1 : decode cX3_clear 1 = .ok (.iconst 0, 1) := by decide +kernel
theorem dX3_clear_2 : decode cX3_clear 2 = .ok (.putfield 24, 3) := by decide +kernel
theorem dX3_clear_5 : decode cX3_clear 5 = .ok (.return_, 1) := by decide +kernel
def kX3_clear_0 (g : sk_G) (d ck sk : Nat) (Q : sk_P) : sk_K := o_aload 0 (o_i (0) (o_puti 3 4 (o_ret (g, d, ck, sk, xX3_clear, Q))))
theorem tX3_clear_0 {g : sk_G} {d ck sk : Nat} {Q : sk_P} : sk_S (g, d, ck, sk, xX3_clear, Q) 0 (kX3_clear_0 g d ck sk Q) := s_aload_n dX3_clear_0 rfl (s_iconst dX3_clear_1 (s_puti (ci := 3) (j := 4) (C := RX3) (T := TX3) (N := 5) dX3_clear_2 rfl (by decide) (by decide) rfl (tyX3_ok 4 (by decide)) qf_X3_24 (s_ret dX3_clear_5 rfl)))
theorem dX3_add_0 : decode cX3_add 0 = .ok (.aload_n 0, 1) := by decide +kernel
theorem dX3_add_1 : decode cX3_add 1 = .ok (.getfield 24, 3) := by decide +kernel
theorem dX3_add_4 : decode cX3_add 4 = .ok (.bipush 16, 2) := by decide +kernel
theorem dX3_add_6 : decode cX3_add 6 = .ok (.if_icmp .ge 33, 3) := by decide +kernel
theorem dX3_add_9 : decode cX3_add 9 = .ok (.aload_n 0, 1) := by decide +kernel
theorem dX3_add_10 : decode cX3_add 10 = .ok (.getfield 9, 3) := by decide +kernel
theorem dX3_add_13 : decode cX3_add 13 = .ok (.aload_n 0, 1) := by decide +kernel
theorem dX3_add_14 : decode cX3_add 14 = .ok (.getfield 24, 3) := by decide +kernel
theorem dX3_add_17 : decode cX3_add 17 = .ok (.iload_n 1, 1) := by decide +kernel
theorem dX3_add_18 : decode cX3_add 18 = .ok (.iastore, 1) := by decide +kernel
theorem dX3_add_19 : decode cX3_add 19 = .ok (.aload_n 0, 1) := by decide +kernel
theorem dX3_add_20 : decode cX3_add 20 = .ok (.getfield 15, 3) := by decide +kernel
theorem dX3_add_23 : decode cX3_add 23 = .ok (.aload_n 0, 1) := by decide +kernel
theorem dX3_add_24 : decode cX3_add 24 = .ok (.getfield 24, 3) := by decide +kernel
theorem dX3_add_27 : decode cX3_add 27 = .ok (.iload_n 2, 1) := by decide +kernel
theorem dX3_add_28 : decode cX3_add 28 = .ok (.iastore, 1) := by decide +kernel
theorem dX3_add_29 : decode cX3_add 29 = .ok (.aload_n 0, 1) := by decide +kernel
theorem dX3_add_30 : decode cX3_add 30 = .ok (.dup, 1) := by decide +kernel
theorem dX3_add_31 : decode cX3_add 31 = .ok (.getfield 24, 3) := by decide +kernel
theorem dX3_add_34 : decode cX3_add 34 = .ok (.iconst 1, 1) := by decide +kernel
theorem dX3_add_35 : decode cX3_add 35 = .ok (.iadd, 1) := by decide +kernel
theorem dX3_add_36 : decode cX3_add 36 = .ok (.putfield 24, 3) := by decide +kernel
theorem dX3_add_39 : decode cX3_add 39 = .ok (.return_, 1) := by decide +kernel
set_option maxRecDepth 20000 in
def kX3_add_0 (g : sk_G) (d ck sk : Nat) (Q : sk_P) : sk_K := o_aload 0 (o_getf 3 4 (o_i (16) (o_icge (o_ret (g, d, ck, sk, xX3_add, Q)) (o_aload 0 (o_getf 3 0 (o_aload 0 (o_getf 3 4 (o_iload 1 (o_iastore (o_aload 0 (o_getf 3 1 (o_aload 0 (o_getf 3 4 (o_iload 2 (o_iastore (o_aload 0 (o_dup (o_getf 3 4 (o_i (1) (o_iadd (o_puti 3 4 (o_ret (g, d, ck, sk, xX3_add, Q)))))))))))))))))))))))
set_option maxRecDepth 20000 in
theorem tX3_add_0 {g : sk_G} {d ck sk : Nat} {Q : sk_P} : sk_S (g, d, ck, sk, xX3_add, Q) 0 (kX3_add_0 g d ck sk Q) := s_aload_n dX3_add_0 rfl (s_getf (ci := 3) (j := 4) (C := RX3) (T := TX3) (N := 5) dX3_add_1 rfl (by decide) (by decide) qf_X3_24 (s_bipush dX3_add_4 rfl (s_icge (tgt := 39) dX3_add_6 (by decide) (s_ret dX3_add_39 rfl) (s_aload_n dX3_add_9 rfl (s_getf (ci := 3) (j := 0) (C := RX3) (T := TX3) (N := 5) dX3_add_10 rfl (by decide) (by decide) qf_X3_9 (s_aload_n dX3_add_13 rfl (s_getf (ci := 3) (j := 4) (C := RX3) (T := TX3) (N := 5) dX3_add_14 rfl (by decide) (by decide) qf_X3_24 (s_iload_n dX3_add_17 rfl (s_iastore dX3_add_18 (s_aload_n dX3_add_19 rfl (s_getf (ci := 3) (j := 1) (C := RX3) (T := TX3) (N := 5) dX3_add_20 rfl (by decide) (by decide) qf_X3_15 (s_aload_n dX3_add_23 rfl (s_getf (ci := 3) (j := 4) (C := RX3) (T := TX3) (N := 5) dX3_add_24 rfl (by decide) (by decide) qf_X3_24 (s_iload_n dX3_add_27 rfl (s_iastore dX3_add_28 (s_aload_n dX3_add_29 rfl (s_dup dX3_add_30 (s_getf (ci := 3) (j := 4) (C := RX3) (T := TX3) (N := 5) dX3_add_31 rfl (by decide) (by decide) qf_X3_24 (s_iconst dX3_add_34 (s_iadd dX3_add_35 (s_puti (ci := 3) (j := 4) (C := RX3) (T := TX3) (N := 5) dX3_add_36 rfl (by decide) (by decide) rfl (tyX3_ok 4 (by decide)) qf_X3_24 (s_ret dX3_add_39 rfl))))))))))))))))))))))
theorem dX3_init_0 : decode cX3_init 0 = .ok (.aload_n 0, 1) := by decide +kernel
theorem dX3_init_1 : decode cX3_init 1 = .ok (.invokespecial 3, 3) := by decide +kernel
theorem dX3_init_4 : decode cX3_init 4 = .ok (.aload_n 0, 1) := by decide +kernel
theorem dX3_init_5 : decode cX3_init 5 = .ok (.bipush 16, 2) := by decide +kernel
theorem dX3_init_7 : decode cX3_init 7 = .ok (.newarray .int, 2) := by decide +kernel
theorem dX3_init_9 : decode cX3_init 9 = .ok (.putfield 9, 3) := by decide +kernel
theorem dX3_init_12 : decode cX3_init 12 = .ok (.aload_n 0, 1) := by decide +kernel
theorem dX3_init_13 : decode cX3_init 13 = .ok (.bipush 16, 2) := by decide +kernel
theorem dX3_init_15 : decode cX3_init 15 = .ok (.newarray .int, 2) := by decide +kernel
theorem dX3_init_17 : decode cX3_init 17 = .ok (.putfield 15, 3) := by decide +kernel
theorem dX3_init_20 : decode cX3_init 20 = .ok (.aload_n 0, 1) := by decide +kernel
theorem dX3_init_21 : decode cX3_init 21 = .ok (.bipush 16, 2) := by decide +kernel
theorem dX3_init_23 : decode cX3_init 23 = .ok (.newarray .int, 2) := by decide +kernel
theorem dX3_init_25 : decode cX3_init 25 = .ok (.putfield 18, 3) := by decide +kernel
theorem dX3_init_28 : decode cX3_init 28 = .ok (.aload_n 0, 1) := by decide +kernel
theorem dX3_init_29 : decode cX3_init 29 = .ok (.bipush 17, 2) := by decide +kernel
theorem dX3_init_31 : decode cX3_init 31 = .ok (.newarray .int, 2) := by decide +kernel
theorem dX3_init_33 : decode cX3_init 33 = .ok (.putfield 21, 3) := by decide +kernel
theorem dX3_init_36 : decode cX3_init 36 = .ok (.return_, 1) := by decide +kernel
set_option maxRecDepth 20000 in
def kX3_init_0 (g : sk_G) (d ck sk : Nat) (Q : sk_P) : sk_K := o_aload 0 (o_obj (g, d, ck, sk, xX3_init, Q) (o_aload 0 (o_i (16) (o_newa (g, d, ck, sk, xX3_init, Q) 20 16 (sk_I (fun _ => 0)) (o_puta 3 0 (o_aload 0 (o_i (16) (o_newa (g, d, ck - 1, sk - 16, xX3_init, Q) 20 16 (sk_I (fun _ => 0)) (o_puta 3 1 (o_aload 0 (o_i (16) (o_newa (g, d, ck - 1 - 1, sk - 16 - 16, xX3_init, Q) 20 16 (sk_I (fun _ => 0)) (o_puta 3 2 (o_aload 0 (o_i (17) (o_newa (g, d, ck - 1 - 1 - 1, sk - 16 - 16 - 16, xX3_init, Q) 20 17 (sk_I (fun _ => 0)) (o_puta 3 3 (o_ret (g, d, ck - 1 - 1 - 1 - 1, sk - 16 - 16 - 16 - 17, xX3_init, Q)))))))))))))))))))
set_option maxRecDepth 20000 in
theorem tX3_init_0 {g : sk_G} {d ck sk : Nat} {Q : sk_P} : sk_S (g, d, ck, sk, xX3_init, Q) 0 (kX3_init_0 g d ck sk Q) := s_aload_n dX3_init_0 rfl (s_obj dX3_init_1 qm_X3_3 qi_obj qc_obj (s_aload_n dX3_init_4 rfl (s_bipush dX3_init_5 rfl (s_newI (w' := (g, d, ck - 1, sk - 16, xX3_init, Q)) (N := 16) dX3_init_7 (by decide) qr_int rfl (s_putaF (ci := 3) (j := 0) (C := RX3) (T := TX3) (N := 5) dX3_init_9 rfl (by decide) (by decide) rfl rfl rfl (Or.inr ⟨_, rfl⟩) (tyX3_ok 0 (by decide)) qf_X3_9 (s_aload_n dX3_init_12 rfl (s_bipush dX3_init_13 rfl (s_newI (w' := (g, d, ck - 1 - 1, sk - 16 - 16, xX3_init, Q)) (N := 16) dX3_init_15 (by decide) qr_int rfl (s_putaF (ci := 3) (j := 1) (C := RX3) (T := TX3) (N := 5) dX3_init_17 rfl (by decide) (by decide) rfl rfl rfl (Or.inr ⟨_, rfl⟩) (tyX3_ok 1 (by decide)) qf_X3_15 (s_aload_n dX3_init_20 rfl (s_bipush dX3_init_21 rfl (s_newI (w' := (g, d, ck - 1 - 1 - 1, sk - 16 - 16 - 16, xX3_init, Q)) (N := 16) dX3_init_23 (by decide) qr_int rfl (s_putaF (ci := 3) (j := 2) (C := RX3) (T := TX3) (N := 5) dX3_init_25 rfl (by decide) (by decide) rfl rfl rfl (Or.inr ⟨_, rfl⟩) (tyX3_ok 2 (by decide)) qf_X3_18 (s_aload_n dX3_init_28 rfl (s_bipush dX3_init_29 rfl (s_newI (w' := (g, d, ck - 1 - 1 - 1 - 1, sk - 16 - 16 - 16 - 17, xX3_init, Q)) (N := 17) dX3_init_31 (by decide) qr_int rfl (s_putaF (ci := 3) (j := 3) (C := RX3) (T := TX3) (N := 5) dX3_init_33 rfl (by decide) (by decide) rfl rfl rfl (Or.inr ⟨_, rfl⟩) (tyX3_ok 3 (by decide)) qf_X3_21 (s_ret dX3_init_36 rfl))))))))))))))))))
theorem dX3_least_0 : decode cX3_least 0 = .ok (.iload_n 1, 1) := by decide +kernel
theorem dX3_least_1 : decode cX3_least 1 = .ok (.ifCond .gt 5, 3) := by decide +kernel
theorem dX3_least_4 : decode cX3_least 4 = .ok (.iconst 0, 1) := by decide +kernel
theorem dX3_least_5 : decode cX3_least 5 = .ok (.ireturn, 1) := by decide +kernel
theorem dX3_least_6 : decode cX3_least 6 = .ok (.iload_n 1, 1) := by decide +kernel
theorem dX3_least_7 : decode cX3_least 7 = .ok (.aload_n 0, 1) := by decide +kernel
theorem dX3_least_8 : decode cX3_least 8 = .ok (.getfield 24, 3) := by decide +kernel
theorem dX3_least_11 : decode cX3_least 11 = .ok (.if_icmp .le 5, 3) := by decide +kernel
theorem dX3_least_14 : decode cX3_least 14 = .ok (.iconst (-1), 1) := by decide +kernel
theorem dX3_least_15 : decode cX3_least 15 = .ok (.ireturn, 1) := by decide +kernel
theorem dX3_least_16 : decode cX3_least 16 = .ok (.iconst 0, 1) := by decide +kernel
theorem dX3_least_17 : decode cX3_least 17 = .ok (.istore_n 2, 1) := by decide +kernel
theorem dX3_least_18 : decode cX3_least 18 = .ok (.iload_n 2, 1) := by decide +kernel
theorem dX3_least_19 : decode cX3_least 19 = .ok (.aload_n 0, 1) := by decide +kernel
theorem dX3_least_20 : decode cX3_least 20 = .ok (.getfield 24, 3) := by decide +kernel
theorem dX3_least_23 : decode cX3_least 23 = .ok (.if_icmp .ge 20, 3) := by decide +kernel
theorem dX3_least_26 : decode cX3_least 26 = .ok (.aload_n 0, 1) := by decide +kernel
theorem dX3_least_27 : decode cX3_least 27 = .ok (.getfield 18, 3) := by decide +kernel
theorem dX3_least_30 : decode cX3_least 30 = .ok (.iload_n 2, 1) := by decide +kernel
theorem dX3_least_31 : decode cX3_least 31 = .ok (.aload_n 0, 1) := by decide +kernel
theorem dX3_least_32 : decode cX3_least 32 = .ok (.iload_n 2, 1) := by decide +kernel
theorem dX3_least_33 : decode cX3_least 33 = .ok (.invokevirtual 28, 3) := by decide +kernel
theorem dX3_least_36 : decode cX3_least 36 = .ok (.iastore, 1) := by decide +kernel
theorem dX3_least_37 : decode cX3_least 37 = .ok (.iinc 2 1, 3) := by decide +kernel
theorem dX3_least_40 : decode cX3_least 40 = .ok (.goto (-22), 3) := by decide +kernel
theorem dX3_least_43 : decode cX3_least 43 = .ok (.aload_n 0, 1) := by decide +kernel
theorem dX3_least_44 : decode cX3_least 44 = .ok (.getfield 21, 3) := by decide +kernel
theorem dX3_least_47 : decode cX3_least 47 = .ok (.ldc 32, 2) := by decide +kernel
theorem dX3_least_49 : decode cX3_least 49 = .ok (.invokestatic 33, 3) := by decide +kernel
theorem dX3_least_52 : decode cX3_least 52 = .ok (.aload_n 0, 1) := by decide +kernel
theorem dX3_least_53 : decode cX3_least 53 = .ok (.getfield 21, 3) := by decide +kernel
theorem dX3_least_56 : decode cX3_least 56 = .ok (.iconst 0, 1) := by decide +kernel
theorem dX3_least_57 : decode cX3_least 57 = .ok (.iconst 0, 1) := by decide +kernel
theorem dX3_least_58 : decode cX3_least 58 = .ok (.iastore, 1) := by decide +kernel
theorem dX3_least_59 : decode cX3_least 59 = .ok (.iconst 0, 1) := by decide +kernel
theorem dX3_least_60 : decode cX3_least 60 = .ok (.istore_n 2, 1) := by decide +kernel
theorem dX3_least_61 : decode cX3_least 61 = .ok (.iload_n 2, 1) := by decide +kernel
theorem dX3_least_62 : decode cX3_least 62 = .ok (.iconst 5, 1) := by decide +kernel
theorem dX3_least_63 : decode cX3_least 63 = .ok (.if_icmp .ge 33, 3) := by decide +kernel
theorem dX3_least_66 : decode cX3_least 66 = .ok (.iload_n 1, 1) := by decide +kernel
theorem dX3_least_67 : decode cX3_least 67 = .ok (.istore_n 3, 1) := by decide +kernel
theorem dX3_least_68 : decode cX3_least 68 = .ok (.iload_n 3, 1) := by decide +kernel
theorem dX3_least_69 : decode cX3_least 69 = .ok (.ifCond .le 21, 3) := by decide +kernel
theorem dX3_least_72 : decode cX3_least 72 = .ok (.aload_n 0, 1) := by decide +kernel
theorem dX3_least_73 : decode cX3_least 73 = .ok (.getfield 21, 3) := by decide +kernel
theorem dX3_least_76 : decode cX3_least 76 = .ok (.iload_n 3, 1) := by decide +kernel
theorem dX3_least_77 : decode cX3_least 77 = .ok (.aload_n 0, 1) := by decide +kernel
theorem dX3_least_78 : decode cX3_least 78 = .ok (.iload_n 2, 1) := by decide +kernel
theorem dX3_least_79 : decode cX3_least 79 = .ok (.iload_n 3, 1) := by decide +kernel
theorem dX3_least_80 : decode cX3_least 80 = .ok (.invokevirtual 39, 3) := by decide +kernel
theorem dX3_least_83 : decode cX3_least 83 = .ok (.iastore, 1) := by decide +kernel
theorem dX3_least_84 : decode cX3_least 84 = .ok (.iinc 3 (-1), 3) := by decide +kernel
theorem dX3_least_87 : decode cX3_least 87 = .ok (.goto (-19), 3) := by decide +kernel
theorem dX3_least_90 : decode cX3_least 90 = .ok (.iinc 2 1, 3) := by decide +kernel
theorem dX3_least_93 : decode cX3_least 93 = .ok (.goto (-32), 3) := by decide +kernel
theorem dX3_least_96 : decode cX3_least 96 = .ok (.aload_n 0, 1) := by decide +kernel
theorem dX3_least_97 : decode cX3_least 97 = .ok (.getfield 21, 3) := by decide +kernel
theorem dX3_least_100 : decode cX3_least 100 = .ok (.iload_n 1, 1) := by decide +kernel
theorem dX3_least_101 : decode cX3_least 101 = .ok (.iaload, 1) := by decide +kernel
theorem dX3_least_102 : decode cX3_least 102 = .ok (.ireturn, 1) := by decide +kernel
def kX3_least_0 (g : sk_G) (d ck sk : Nat) (Q : sk_P) : sk_K := o_iload 1 (o_ifgt (o_iload 1 (o_aload 0 (o_getf 3 4 (o_icle (o_i (0) (o_istore 2 (sk_B (g, d, ck, sk, xX3_least, Q) 18))) (o_i (-1) (o_iret (g, d, ck, sk, xX3_least, Q))))))) (o_i (0) (o_iret (g, d, ck, sk, xX3_least, Q))))
theorem tX3_least_0 {g : sk_G} {d ck sk : Nat} {Q : sk_P} : sk_S (g, d, ck, sk, xX3_least, Q) 0 (kX3_least_0 g d ck sk Q) := s_iload_n dX3_least_0 rfl (s_ifgt (tgt := 6) dX3_least_1 (by decide) (s_iload_n dX3_least_6 rfl (s_aload_n dX3_least_7 rfl (s_getf (ci := 3) (j := 4) (C := RX3) (T := TX3) (N := 5) dX3_least_8 rfl (by decide) (by decide) qf_X3_24 (s_icle (tgt := 16) dX3_least_11 (by decide) (s_iconst dX3_least_16 (s_istore_n dX3_least_17 rfl (by decide : 2 < 4) (sk_id))) (s_iconst dX3_least_14 (s_iret dX3_least_15 rfl)))))) (s_iconst dX3_least_4 (s_iret dX3_least_5 rfl)))
set_option maxRecDepth 20000 in
def kX3_least_18 (g : sk_G) (d ck sk : Nat) (Q : sk_P) : sk_K := o_iload 2 (o_aload 0 (o_getf 3 4 (o_icge (o_aload 0 (o_getf 3 3 (o_i (1000000) (o_stcB (g, d, ck, sk, xX3_least, Q) xJ7_fill_53178 2 0 0 (o_aload 0 (o_getf 3 3 (o_i (0) (o_i (0) (o_iastore (o_i (0) (o_istore 2 (sk_B (g, d, ck, sk, xX3_least, Q) 61)))))))))))) (o_aload 0 (o_getf 3 2 (o_iload 2 (o_aload 0 (o_iload 2 (o_invB (g, d, ck, sk, xX3_least, Q) xX3_lostWith 1 3 0 0 (o_iastore (o_iinc 2 (1) (sk_B (g, d, ck, sk, xX3_least, Q) 18))))))))))))
set_option maxRecDepth 20000 in
theorem tX3_least_18 {g : sk_G} {d ck sk : Nat} {Q : sk_P} : sk_S (g, d, ck, sk, xX3_least, Q) 18 (kX3_least_18 g d ck sk Q) := s_iload_n dX3_least_18 rfl (s_aload_n dX3_least_19 rfl (s_getf (ci := 3) (j := 4) (C := RX3) (T := TX3) (N := 5) dX3_least_20 rfl (by decide) (by decide) qf_X3_24 (s_icge (tgt := 43) dX3_least_23 (by decide) (s_aload_n dX3_least_43 rfl (s_getf (ci := 3) (j := 3) (C := RX3) (T := TX3) (N := 5) dX3_least_44 rfl (by decide) (by decide) qf_X3_21 (s_ldc dX3_least_47 qk_X3_32 rfl (s_stcB (w' := (g, d, ck, sk, xX3_least, Q)) (ck := 0) (sk := 0) dX3_least_49 m_J7_fill_53178 qm_X3_33 qs_J7_fill_53178 rfl (s_aload_n dX3_least_52 rfl (s_getf (ci := 3) (j := 3) (C := RX3) (T := TX3) (N := 5) dX3_least_53 rfl (by decide) (by decide) qf_X3_21 (s_iconst dX3_least_56 (s_iconst dX3_least_57 (s_iastore dX3_least_58 (s_iconst dX3_least_59 (s_istore_n dX3_least_60 rfl (by decide : 2 < 4) (sk_id)))))))))))) (s_aload_n dX3_least_26 rfl (s_getf (ci := 3) (j := 2) (C := RX3) (T := TX3) (N := 5) dX3_least_27 rfl (by decide) (by decide) qf_X3_18 (s_iload_n dX3_least_30 rfl (s_aload_n dX3_least_31 rfl (s_iload_n dX3_least_32 rfl (s_invB (w' := (g, d, ck, sk, xX3_least, Q)) (ci := 3) (ck := 0) (sk := 0) (T := TX3) (N := 5) dX3_least_33 m_X3_lostWith rfl (by decide) qm_X3_28 qi_X3_lostWith qe_X3_lostWith rfl (s_iastore dX3_least_36 (s_iinc dX3_least_37 (by decide : 2 < 4) (s_goto (tgt := 18) dX3_least_40 (by decide) (sk_id)))))))))))))
def kX3_least_61 (g : sk_G) (d ck sk : Nat) (Q : sk_P) : sk_K := o_iload 2 (o_i (5) (o_icge (o_aload 0 (o_getf 3 3 (o_iload 1 (o_iaload (o_iret (g, d, ck, sk, xX3_least, Q)))))) (o_iload 1 (o_istore 3 (sk_B (g, d, ck, sk, xX3_least, Q) 68)))))
theorem tX3_least_61 {g : sk_G} {d ck sk : Nat} {Q : sk_P} : sk_S (g, d, ck, sk, xX3_least, Q) 61 (kX3_least_61 g d ck sk Q) := s_iload_n dX3_least_61 rfl (s_iconst dX3_least_62 (s_icge (tgt := 96) dX3_least_63 (by decide) (s_aload_n dX3_least_96 rfl (s_getf (ci := 3) (j := 3) (C := RX3) (T := TX3) (N := 5) dX3_least_97 rfl (by decide) (by decide) qf_X3_21 (s_iload_n dX3_least_100 rfl (s_iaload dX3_least_101 (s_iret dX3_least_102 rfl))))) (s_iload_n dX3_least_66 rfl (s_istore_n dX3_least_67 rfl (by decide : 3 < 4) (sk_id)))))
set_option maxRecDepth 20000 in
def kX3_least_68 (g : sk_G) (d ck sk : Nat) (Q : sk_P) : sk_K := o_iload 3 (o_ifle (o_iinc 2 (1) (sk_B (g, d, ck, sk, xX3_least, Q) 61)) (o_aload 0 (o_getf 3 3 (o_iload 3 (o_aload 0 (o_iload 2 (o_iload 3 (o_invB (g, d, ck, sk, xX3_least, Q) xX3_leastWithRow 2 3 0 0 (o_iastore (o_iinc 3 (-1) (sk_B (g, d, ck, sk, xX3_least, Q) 68)))))))))))
set_option maxRecDepth 20000 in
theorem tX3_least_68 {g : sk_G} {d ck sk : Nat} {Q : sk_P} : sk_S (g, d, ck, sk, xX3_least, Q) 68 (kX3_least_68 g d ck sk Q) := s_iload_n dX3_least_68 rfl (s_ifle (tgt := 90) dX3_least_69 (by decide) (s_iinc dX3_least_90 (by decide : 2 < 4) (s_goto (tgt := 61) dX3_least_93 (by decide) (sk_id))) (s_aload_n dX3_least_72 rfl (s_getf (ci := 3) (j := 3) (C := RX3) (T := TX3) (N := 5) dX3_least_73 rfl (by decide) (by decide) qf_X3_21 (s_iload_n dX3_least_76 rfl (s_aload_n dX3_least_77 rfl (s_iload_n dX3_least_78 rfl (s_iload_n dX3_least_79 rfl (s_invB (w' := (g, d, ck, sk, xX3_least, Q)) (ci := 3) (ck := 0) (sk := 0) (T := TX3) (N := 5) dX3_least_80 m_X3_leastWithRow rfl (by decide) qm_X3_39 qi_X3_leastWithRow qe_X3_leastWithRow rfl (s_iastore dX3_least_83 (s_iinc dX3_least_84 (by decide : 3 < 4) (s_goto (tgt := 68) dX3_least_87 (by decide) (sk_id))))))))))))
theorem dX3_lostWith_0 : decode cX3_lostWith 0 = .ok (.iconst 0, 1) := by decide +kernel
theorem dX3_lostWith_1 : decode cX3_lostWith 1 = .ok (.istore_n 2, 1) := by decide +kernel
theorem dX3_lostWith_2 : decode cX3_lostWith 2 = .ok (.iconst 0, 1) := by decide +kernel
theorem dX3_lostWith_3 : decode cX3_lostWith 3 = .ok (.istore_n 3, 1) := by decide +kernel
theorem dX3_lostWith_4 : decode cX3_lostWith 4 = .ok (.iload_n 3, 1) := by decide +kernel
theorem dX3_lostWith_5 : decode cX3_lostWith 5 = .ok (.aload_n 0, 1) := by decide +kernel
theorem dX3_lostWith_6 : decode cX3_lostWith 6 = .ok (.getfield 24, 3) := by decide +kernel
theorem dX3_lostWith_9 : decode cX3_lostWith 9 = .ok (.if_icmp .ge 47, 3) := by decide +kernel
theorem dX3_lostWith_12 : decode cX3_lostWith 12 = .ok (.iload_n 2, 1) := by decide +kernel
theorem dX3_lostWith_13 : decode cX3_lostWith 13 = .ok (.aload_n 0, 1) := by decide +kernel
theorem dX3_lostWith_14 : decode cX3_lostWith 14 = .ok (.getfield 9, 3) := by decide +kernel
theorem dX3_lostWith_17 : decode cX3_lostWith 17 = .ok (.iload_n 3, 1) := by decide +kernel
theorem dX3_lostWith_18 : decode cX3_lostWith 18 = .ok (.iaload, 1) := by decide +kernel
theorem dX3_lostWith_19 : decode cX3_lostWith 19 = .ok (.aload_n 0, 1) := by decide +kernel
theorem dX3_lostWith_20 : decode cX3_lostWith 20 = .ok (.getfield 9, 3) := by decide +kernel
theorem dX3_lostWith_23 : decode cX3_lostWith 23 = .ok (.iload_n 1, 1) := by decide +kernel
theorem dX3_lostWith_24 : decode cX3_lostWith 24 = .ok (.iaload, 1) := by decide +kernel
theorem dX3_lostWith_25 : decode cX3_lostWith 25 = .ok (.if_icmp .ne 22, 3) := by decide +kernel
theorem dX3_lostWith_28 : decode cX3_lostWith 28 = .ok (.aload_n 0, 1) := by decide +kernel
theorem dX3_lostWith_29 : decode cX3_lostWith 29 = .ok (.getfield 15, 3) := by decide +kernel
theorem dX3_lostWith_32 : decode cX3_lostWith 32 = .ok (.iload_n 3, 1) := by decide +kernel
theorem dX3_lostWith_33 : decode cX3_lostWith 33 = .ok (.iaload, 1) := by decide +kernel
theorem dX3_lostWith_34 : decode cX3_lostWith 34 = .ok (.aload_n 0, 1) := by decide +kernel
theorem dX3_lostWith_35 : decode cX3_lostWith 35 = .ok (.getfield 15, 3) := by decide +kernel
theorem dX3_lostWith_38 : decode cX3_lostWith 38 = .ok (.iload_n 1, 1) := by decide +kernel
theorem dX3_lostWith_39 : decode cX3_lostWith 39 = .ok (.iaload, 1) := by decide +kernel
theorem dX3_lostWith_40 : decode cX3_lostWith 40 = .ok (.if_icmp .gt 7, 3) := by decide +kernel
theorem dX3_lostWith_43 : decode cX3_lostWith 43 = .ok (.iconst 1, 1) := by decide +kernel
theorem dX3_lostWith_44 : decode cX3_lostWith 44 = .ok (.goto 4, 3) := by decide +kernel
theorem dX3_lostWith_47 : decode cX3_lostWith 47 = .ok (.iconst 0, 1) := by decide +kernel
theorem dX3_lostWith_48 : decode cX3_lostWith 48 = .ok (.iadd, 1) := by decide +kernel
theorem dX3_lostWith_49 : decode cX3_lostWith 49 = .ok (.istore_n 2, 1) := by decide +kernel
theorem dX3_lostWith_50 : decode cX3_lostWith 50 = .ok (.iinc 3 1, 3) := by decide +kernel
theorem dX3_lostWith_53 : decode cX3_lostWith 53 = .ok (.goto (-49), 3) := by decide +kernel
theorem dX3_lostWith_56 : decode cX3_lostWith 56 = .ok (.iload_n 2, 1) := by decide +kernel
theorem dX3_lostWith_57 : decode cX3_lostWith 57 = .ok (.ireturn, 1) := by decide +kernel
def kX3_lostWith_0 (g : sk_G) (d ck sk : Nat) (Q : sk_P) : sk_K := o_i (0) (o_istore 2 (o_i (0) (o_istore 3 (sk_B (g, d, ck, sk, xX3_lostWith, Q) 4))))
theorem tX3_lostWith_0 {g : sk_G} {d ck sk : Nat} {Q : sk_P} : sk_S (g, d, ck, sk, xX3_lostWith, Q) 0 (kX3_lostWith_0 g d ck sk Q) := s_iconst dX3_lostWith_0 (s_istore_n dX3_lostWith_1 rfl (by decide : 2 < 4) (s_iconst dX3_lostWith_2 (s_istore_n dX3_lostWith_3 rfl (by decide : 3 < 4) (sk_id))))
set_option maxRecDepth 20000 in
def kX3_lostWith_4 (g : sk_G) (d ck sk : Nat) (Q : sk_P) : sk_K := o_iload 3 (o_aload 0 (o_getf 3 4 (o_icge (o_iload 2 (o_iret (g, d, ck, sk, xX3_lostWith, Q))) (o_iload 2 (o_aload 0 (o_getf 3 0 (o_iload 3 (o_iaload (o_aload 0 (o_getf 3 0 (o_iload 1 (o_iaload (o_icne (o_i (0) (o_iadd (o_istore 2 (o_iinc 3 (1) (sk_B (g, d, ck, sk, xX3_lostWith, Q) 4))))) (o_aload 0 (o_getf 3 1 (o_iload 3 (o_iaload (o_aload 0 (o_getf 3 1 (o_iload 1 (o_iaload (o_icgt (o_i (0) (o_iadd (o_istore 2 (o_iinc 3 (1) (sk_B (g, d, ck, sk, xX3_lostWith, Q) 4))))) (o_i (1) (o_iadd (o_istore 2 (o_iinc 3 (1) (sk_B (g, d, ck, sk, xX3_lostWith, Q) 4)))))))))))))))))))))))))))
set_option maxRecDepth 20000 in
theorem tX3_lostWith_4 {g : sk_G} {d ck sk : Nat} {Q : sk_P} : sk_S (g, d, ck, sk, xX3_lostWith, Q) 4 (kX3_lostWith_4 g d ck sk Q) := s_iload_n dX3_lostWith_4 rfl (s_aload_n dX3_lostWith_5 rfl (s_getf (ci := 3) (j := 4) (C := RX3) (T := TX3) (N := 5) dX3_lostWith_6 rfl (by decide) (by decide) qf_X3_24 (s_icge (tgt := 56) dX3_lostWith_9 (by decide) (s_iload_n dX3_lostWith_56 rfl (s_iret dX3_lostWith_57 rfl)) (s_iload_n dX3_lostWith_12 rfl (s_aload_n dX3_lostWith_13 rfl (s_getf (ci := 3) (j := 0) (C := RX3) (T := TX3) (N := 5) dX3_lostWith_14 rfl (by decide) (by decide) qf_X3_9 (s_iload_n dX3_lostWith_17 rfl (s_iaload dX3_lostWith_18 (s_aload_n dX3_lostWith_19 rfl (s_getf (ci := 3) (j := 0) (C := RX3) (T := TX3) (N := 5) dX3_lostWith_20 rfl (by decide) (by decide) qf_X3_9 (s_iload_n dX3_lostWith_23 rfl (s_iaload dX3_lostWith_24 (s_icne (tgt := 47) dX3_lostWith_25 (by decide) (s_iconst dX3_lostWith_47 (s_iadd dX3_lostWith_48 (s_istore_n dX3_lostWith_49 rfl (by decide : 2 < 4) (s_iinc dX3_lostWith_50 (by decide : 3 < 4) (s_goto (tgt := 4) dX3_lostWith_53 (by decide) (sk_id)))))) (s_aload_n dX3_lostWith_28 rfl (s_getf (ci := 3) (j := 1) (C := RX3) (T := TX3) (N := 5) dX3_lostWith_29 rfl (by decide) (by decide) qf_X3_15 (s_iload_n dX3_lostWith_32 rfl (s_iaload dX3_lostWith_33 (s_aload_n dX3_lostWith_34 rfl (s_getf (ci := 3) (j := 1) (C := RX3) (T := TX3) (N := 5) dX3_lostWith_35 rfl (by decide) (by decide) qf_X3_15 (s_iload_n dX3_lostWith_38 rfl (s_iaload dX3_lostWith_39 (s_icgt (tgt := 47) dX3_lostWith_40 (by decide) (s_iconst dX3_lostWith_47 (s_iadd dX3_lostWith_48 (s_istore_n dX3_lostWith_49 rfl (by decide : 2 < 4) (s_iinc dX3_lostWith_50 (by decide : 3 < 4) (s_goto (tgt := 4) dX3_lostWith_53 (by decide) (sk_id)))))) (s_iconst dX3_lostWith_43 (s_goto (tgt := 48) dX3_lostWith_44 (by decide) (s_iadd dX3_lostWith_48 (s_istore_n dX3_lostWith_49 rfl (by decide : 2 < 4) (s_iinc dX3_lostWith_50 (by decide : 3 < 4) (s_goto (tgt := 4) dX3_lostWith_53 (by decide) (sk_id)))))))))))))))))))))))))))))
theorem dX3_leastWithRow_0 : decode cX3_leastWithRow 0 = .ok (.aload_n 0, 1) := by decide +kernel
theorem dX3_leastWithRow_1 : decode cX3_leastWithRow 1 = .ok (.getfield 21, 3) := by decide +kernel
theorem dX3_leastWithRow_4 : decode cX3_leastWithRow 4 = .ok (.iload_n 2, 1) := by decide +kernel
theorem dX3_leastWithRow_5 : decode cX3_leastWithRow 5 = .ok (.iaload, 1) := by decide +kernel
theorem dX3_leastWithRow_6 : decode cX3_leastWithRow 6 = .ok (.istore_n 3, 1) := by decide +kernel
theorem dX3_leastWithRow_7 : decode cX3_leastWithRow 7 = .ok (.iconst 0, 1) := by decide +kernel
theorem dX3_leastWithRow_8 : decode cX3_leastWithRow 8 = .ok (.istore 4, 2) := by decide +kernel
theorem dX3_leastWithRow_10 : decode cX3_leastWithRow 10 = .ok (.iload 4, 2) := by decide +kernel
theorem dX3_leastWithRow_12 : decode cX3_leastWithRow 12 = .ok (.aload_n 0, 1) := by decide +kernel
theorem dX3_leastWithRow_13 : decode cX3_leastWithRow 13 = .ok (.getfield 24, 3) := by decide +kernel
theorem dX3_leastWithRow_16 : decode cX3_leastWithRow 16 = .ok (.if_icmp .ge 51, 3) := by decide +kernel
theorem dX3_leastWithRow_19 : decode cX3_leastWithRow 19 = .ok (.aload_n 0, 1) := by decide +kernel
theorem dX3_leastWithRow_20 : decode cX3_leastWithRow 20 = .ok (.getfield 9, 3) := by decide +kernel
theorem dX3_leastWithRow_23 : decode cX3_leastWithRow 23 = .ok (.iload 4, 2) := by decide +kernel
theorem dX3_leastWithRow_25 : decode cX3_leastWithRow 25 = .ok (.iaload, 1) := by decide +kernel
theorem dX3_leastWithRow_26 : decode cX3_leastWithRow 26 = .ok (.iload_n 1, 1) := by decide +kernel
theorem dX3_leastWithRow_27 : decode cX3_leastWithRow 27 = .ok (.if_icmp .ne 34, 3) := by decide +kernel
theorem dX3_leastWithRow_30 : decode cX3_leastWithRow 30 = .ok (.iload_n 3, 1) := by decide +kernel
theorem dX3_leastWithRow_31 : decode cX3_leastWithRow 31 = .ok (.aload_n 0, 1) := by decide +kernel
theorem dX3_leastWithRow_32 : decode cX3_leastWithRow 32 = .ok (.getfield 21, 3) := by decide +kernel
theorem dX3_leastWithRow_35 : decode cX3_leastWithRow 35 = .ok (.iconst 0, 1) := by decide +kernel
theorem dX3_leastWithRow_36 : decode cX3_leastWithRow 36 = .ok (.iload_n 2, 1) := by decide +kernel
theorem dX3_leastWithRow_37 : decode cX3_leastWithRow 37 = .ok (.aload_n 0, 1) := by decide +kernel
theorem dX3_leastWithRow_38 : decode cX3_leastWithRow 38 = .ok (.getfield 18, 3) := by decide +kernel
theorem dX3_leastWithRow_41 : decode cX3_leastWithRow 41 = .ok (.iload 4, 2) := by decide +kernel
theorem dX3_leastWithRow_43 : decode cX3_leastWithRow 43 = .ok (.iaload, 1) := by decide +kernel
theorem dX3_leastWithRow_44 : decode cX3_leastWithRow 44 = .ok (.isub, 1) := by decide +kernel
theorem dX3_leastWithRow_45 : decode cX3_leastWithRow 45 = .ok (.invokestatic 43, 3) := by decide +kernel
theorem dX3_leastWithRow_48 : decode cX3_leastWithRow 48 = .ok (.iaload, 1) := by decide +kernel
theorem dX3_leastWithRow_49 : decode cX3_leastWithRow 49 = .ok (.aload_n 0, 1) := by decide +kernel
theorem dX3_leastWithRow_50 : decode cX3_leastWithRow 50 = .ok (.getfield 15, 3) := by decide +kernel
theorem dX3_leastWithRow_53 : decode cX3_leastWithRow 53 = .ok (.iload 4, 2) := by decide +kernel
theorem dX3_leastWithRow_55 : decode cX3_leastWithRow 55 = .ok (.iaload, 1) := by decide +kernel
theorem dX3_leastWithRow_56 : decode cX3_leastWithRow 56 = .ok (.iadd, 1) := by decide +kernel
theorem dX3_leastWithRow_57 : decode cX3_leastWithRow 57 = .ok (.invokestatic 48, 3) := by decide +kernel
theorem dX3_leastWithRow_60 : decode cX3_leastWithRow 60 = .ok (.istore_n 3, 1) := by decide +kernel
theorem dX3_leastWithRow_61 : decode cX3_leastWithRow 61 = .ok (.iinc 4 1, 3) := by decide +kernel
theorem dX3_leastWithRow_64 : decode cX3_leastWithRow 64 = .ok (.goto (-54), 3) := by decide +kernel
theorem dX3_leastWithRow_67 : decode cX3_leastWithRow 67 = .ok (.iload_n 3, 1) := by decide +kernel
theorem dX3_leastWithRow_68 : decode cX3_leastWithRow 68 = .ok (.ireturn, 1) := by decide +kernel
def kX3_leastWithRow_0 (g : sk_G) (d ck sk : Nat) (Q : sk_P) : sk_K := o_aload 0 (o_getf 3 3 (o_iload 2 (o_iaload (o_istore 3 (o_i (0) (o_istore 4 (sk_B (g, d, ck, sk, xX3_leastWithRow, Q) 10)))))))
theorem tX3_leastWithRow_0 {g : sk_G} {d ck sk : Nat} {Q : sk_P} : sk_S (g, d, ck, sk, xX3_leastWithRow, Q) 0 (kX3_leastWithRow_0 g d ck sk Q) := s_aload_n dX3_leastWithRow_0 rfl (s_getf (ci := 3) (j := 3) (C := RX3) (T := TX3) (N := 5) dX3_leastWithRow_1 rfl (by decide) (by decide) qf_X3_21 (s_iload_n dX3_leastWithRow_4 rfl (s_iaload dX3_leastWithRow_5 (s_istore_n dX3_leastWithRow_6 rfl (by decide : 3 < 5) (s_iconst dX3_leastWithRow_7 (s_istore dX3_leastWithRow_8 (by decide : 4 < 5) (sk_id)))))))
set_option maxRecDepth 20000 in
def kX3_leastWithRow_10 (g : sk_G) (d ck sk : Nat) (Q : sk_P) : sk_K := o_iload 4 (o_aload 0 (o_getf 3 4 (o_icge (o_iload 3 (o_iret (g, d, ck, sk, xX3_leastWithRow, Q))) (o_aload 0 (o_getf 3 0 (o_iload 4 (o_iaload (o_iload 1 (o_icne (o_iinc 4 (1) (sk_B (g, d, ck, sk, xX3_leastWithRow, Q) 10)) (o_iload 3 (o_aload 0 (o_getf 3 3 (o_i (0) (o_iload 2 (o_aload 0 (o_getf 3 2 (o_iload 4 (o_iaload (o_isub (o_max (g, d, ck, sk, xX3_leastWithRow, Q) (o_iaload (o_aload 0 (o_getf 3 1 (o_iload 4 (o_iaload (o_iadd (o_min (g, d, ck, sk, xX3_leastWithRow, Q) (o_istore 3 (o_iinc 4 (1) (sk_B (g, d, ck, sk, xX3_leastWithRow, Q) 10))))))))))))))))))))))))))))))
set_option maxRecDepth 20000 in
theorem tX3_leastWithRow_10 {g : sk_G} {d ck sk : Nat} {Q : sk_P} : sk_S (g, d, ck, sk, xX3_leastWithRow, Q) 10 (kX3_leastWithRow_10 g d ck sk Q) := s_iload dX3_leastWithRow_10 (s_aload_n dX3_leastWithRow_12 rfl (s_getf (ci := 3) (j := 4) (C := RX3) (T := TX3) (N := 5) dX3_leastWithRow_13 rfl (by decide) (by decide) qf_X3_24 (s_icge (tgt := 67) dX3_leastWithRow_16 (by decide) (s_iload_n dX3_leastWithRow_67 rfl (s_iret dX3_leastWithRow_68 rfl)) (s_aload_n dX3_leastWithRow_19 rfl (s_getf (ci := 3) (j := 0) (C := RX3) (T := TX3) (N := 5) dX3_leastWithRow_20 rfl (by decide) (by decide) qf_X3_9 (s_iload dX3_leastWithRow_23 (s_iaload dX3_leastWithRow_25 (s_iload_n dX3_leastWithRow_26 rfl (s_icne (tgt := 61) dX3_leastWithRow_27 (by decide) (s_iinc dX3_leastWithRow_61 (by decide : 4 < 5) (s_goto (tgt := 10) dX3_leastWithRow_64 (by decide) (sk_id))) (s_iload_n dX3_leastWithRow_30 rfl (s_aload_n dX3_leastWithRow_31 rfl (s_getf (ci := 3) (j := 3) (C := RX3) (T := TX3) (N := 5) dX3_leastWithRow_32 rfl (by decide) (by decide) qf_X3_21 (s_iconst dX3_leastWithRow_35 (s_iload_n dX3_leastWithRow_36 rfl (s_aload_n dX3_leastWithRow_37 rfl (s_getf (ci := 3) (j := 2) (C := RX3) (T := TX3) (N := 5) dX3_leastWithRow_38 rfl (by decide) (by decide) qf_X3_18 (s_iload dX3_leastWithRow_41 (s_iaload dX3_leastWithRow_43 (s_isub dX3_leastWithRow_44 (s_max dX3_leastWithRow_45 qm_X3_43 qs_Mmax qz_J9 qc_Mmax (s_iaload dX3_leastWithRow_48 (s_aload_n dX3_leastWithRow_49 rfl (s_getf (ci := 3) (j := 1) (C := RX3) (T := TX3) (N := 5) dX3_leastWithRow_50 rfl (by decide) (by decide) qf_X3_15 (s_iload dX3_leastWithRow_53 (s_iaload dX3_leastWithRow_55 (s_iadd dX3_leastWithRow_56 (s_min dX3_leastWithRow_57 qm_X3_48 qs_Mmin qz_J9 qc_Mmin (s_istore_n dX3_leastWithRow_60 rfl (by decide : 3 < 5) (s_iinc dX3_leastWithRow_61 (by decide : 4 < 5) (s_goto (tgt := 10) dX3_leastWithRow_64 (by decide) (sk_id)))))))))))))))))))))))))))))))
