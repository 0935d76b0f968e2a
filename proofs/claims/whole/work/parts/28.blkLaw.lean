theorem dX1_pop_0 : decode cX1_pop 0 = .ok (.aload_n 0, 1) := by decide +kernel
theorem dX1_pop_1 : decode cX1_pop 1 = .ok (.getfield 91, 3) := by decide +kernel
theorem dX1_pop_4 : decode cX1_pop 4 = .ok (.ifCond .gt 5, 3) := by decide +kernel
theorem dX1_pop_7 : decode cX1_pop 7 = .ok (.iconst 0, 1) := by decide +kernel
theorem dX1_pop_8 : decode cX1_pop 8 = .ok (.ireturn, 1) := by decide +kernel
theorem dX1_pop_9 : decode cX1_pop 9 = .ok (.aload_n 0, 1) := by decide +kernel
theorem dX1_pop_10 : decode cX1_pop 10 = .ok (.dup, 1) := by decide +kernel
theorem dX1_pop_11 : decode cX1_pop 11 = .ok (.getfield 91, 3) := by decide +kernel
theorem dX1_pop_14 : decode cX1_pop 14 = .ok (.iconst 1, 1) := by decide +kernel
theorem dX1_pop_15 : decode cX1_pop 15 = .ok (.isub, 1) := by decide +kernel
theorem dX1_pop_16 : decode cX1_pop 16 = .ok (.putfield 91, 3) := by decide +kernel
theorem dX1_pop_19 : decode cX1_pop 19 = .ok (.aload_n 0, 1) := by decide +kernel
theorem dX1_pop_20 : decode cX1_pop 20 = .ok (.getfield 20, 3) := by decide +kernel
theorem dX1_pop_23 : decode cX1_pop 23 = .ok (.aload_n 0, 1) := by decide +kernel
theorem dX1_pop_24 : decode cX1_pop 24 = .ok (.getfield 91, 3) := by decide +kernel
theorem dX1_pop_27 : decode cX1_pop 27 = .ok (.iaload, 1) := by decide +kernel
theorem dX1_pop_28 : decode cX1_pop 28 = .ok (.ireturn, 1) := by decide +kernel
set_option maxRecDepth 20000 in
def kX1_pop_0 (g : sk_G) (d ck sk : Nat) (Q : sk_P) : sk_K := o_aload 0 (o_getf 1 4 (o_ifgt (o_aload 0 (o_dup (o_getf 1 4 (o_i (1) (o_isub (o_puti 1 4 (o_aload 0 (o_getf 1 3 (o_aload 0 (o_getf 1 4 (o_iaload (o_iret (g, d, ck, sk, xX1_pop, Q))))))))))))) (o_i (0) (o_iret (g, d, ck, sk, xX1_pop, Q)))))
set_option maxRecDepth 20000 in
theorem tX1_pop_0 {g : sk_G} {d ck sk : Nat} {Q : sk_P} : sk_S (g, d, ck, sk, xX1_pop, Q) 0 (kX1_pop_0 g d ck sk Q) := s_aload_n dX1_pop_0 rfl (s_getf (ci := 1) (j := 4) (C := RX1) (T := TX1) (N := 5) dX1_pop_1 rfl (by decide) (by decide) qf_X1_91 (s_ifgt (tgt := 9) dX1_pop_4 (by decide) (s_aload_n dX1_pop_9 rfl (s_dup dX1_pop_10 (s_getf (ci := 1) (j := 4) (C := RX1) (T := TX1) (N := 5) dX1_pop_11 rfl (by decide) (by decide) qf_X1_91 (s_iconst dX1_pop_14 (s_isub dX1_pop_15 (s_puti (ci := 1) (j := 4) (C := RX1) (T := TX1) (N := 5) dX1_pop_16 rfl (by decide) (by decide) rfl (tyX1_ok 4 (by decide)) qf_X1_91 (s_aload_n dX1_pop_19 rfl (s_getf (ci := 1) (j := 3) (C := RX1) (T := TX1) (N := 5) dX1_pop_20 rfl (by decide) (by decide) qf_X1_20 (s_aload_n dX1_pop_23 rfl (s_getf (ci := 1) (j := 4) (C := RX1) (T := TX1) (N := 5) dX1_pop_24 rfl (by decide) (by decide) qf_X1_91 (s_iaload dX1_pop_27 (s_iret dX1_pop_28 rfl)))))))))))) (s_iconst dX1_pop_7 (s_iret dX1_pop_8 rfl))))
theorem dX1_push_0 : decode cX1_push 0 = .ok (.aload_n 0, 1) := by decide +kernel
theorem dX1_push_1 : decode cX1_push 1 = .ok (.getfield 91, 3) := by decide +kernel
theorem dX1_push_4 : decode cX1_push 4 = .ok (.aload_n 0, 1) := by decide +kernel
theorem dX1_push_5 : decode cX1_push 5 = .ok (.getfield 20, 3) := by decide +kernel
theorem dX1_push_8 : decode cX1_push 8 = .ok (.arraylength, 1) := by decide +kernel
theorem dX1_push_9 : decode cX1_push 9 = .ok (.if_icmp .ge 23, 3) := by decide +kernel
theorem dX1_push_12 : decode cX1_push 12 = .ok (.aload_n 0, 1) := by decide +kernel
theorem dX1_push_13 : decode cX1_push 13 = .ok (.getfield 20, 3) := by decide +kernel
theorem dX1_push_16 : decode cX1_push 16 = .ok (.aload_n 0, 1) := by decide +kernel
theorem dX1_push_17 : decode cX1_push 17 = .ok (.getfield 91, 3) := by decide +kernel
theorem dX1_push_20 : decode cX1_push 20 = .ok (.iload_n 1, 1) := by decide +kernel
theorem dX1_push_21 : decode cX1_push 21 = .ok (.iastore, 1) := by decide +kernel
theorem dX1_push_22 : decode cX1_push 22 = .ok (.aload_n 0, 1) := by decide +kernel
theorem dX1_push_23 : decode cX1_push 23 = .ok (.dup, 1) := by decide +kernel
theorem dX1_push_24 : decode cX1_push 24 = .ok (.getfield 91, 3) := by decide +kernel
theorem dX1_push_27 : decode cX1_push 27 = .ok (.iconst 1, 1) := by decide +kernel
theorem dX1_push_28 : decode cX1_push 28 = .ok (.iadd, 1) := by decide +kernel
theorem dX1_push_29 : decode cX1_push 29 = .ok (.putfield 91, 3) := by decide +kernel
theorem dX1_push_32 : decode cX1_push 32 = .ok (.return_, 1) := by decide +kernel
set_option maxRecDepth 20000 in
def kX1_push_0 (g : sk_G) (d ck sk : Nat) (Q : sk_P) : sk_K := o_aload 0 (o_getf 1 4 (o_aload 0 (o_getf 1 3 (o_alen (o_icge (o_ret (g, d, ck, sk, xX1_push, Q)) (o_aload 0 (o_getf 1 3 (o_aload 0 (o_getf 1 4 (o_iload 1 (o_iastore (o_aload 0 (o_dup (o_getf 1 4 (o_i (1) (o_iadd (o_puti 1 4 (o_ret (g, d, ck, sk, xX1_push, Q)))))))))))))))))))
set_option maxRecDepth 20000 in
theorem tX1_push_0 {g : sk_G} {d ck sk : Nat} {Q : sk_P} : sk_S (g, d, ck, sk, xX1_push, Q) 0 (kX1_push_0 g d ck sk Q) := s_aload_n dX1_push_0 rfl (s_getf (ci := 1) (j := 4) (C := RX1) (T := TX1) (N := 5) dX1_push_1 rfl (by decide) (by decide) qf_X1_91 (s_aload_n dX1_push_4 rfl (s_getf (ci := 1) (j := 3) (C := RX1) (T := TX1) (N := 5) dX1_push_5 rfl (by decide) (by decide) qf_X1_20 (s_alen dX1_push_8 (s_icge (tgt := 32) dX1_push_9 (by decide) (s_ret dX1_push_32 rfl) (s_aload_n dX1_push_12 rfl (s_getf (ci := 1) (j := 3) (C := RX1) (T := TX1) (N := 5) dX1_push_13 rfl (by decide) (by decide) qf_X1_20 (s_aload_n dX1_push_16 rfl (s_getf (ci := 1) (j := 4) (C := RX1) (T := TX1) (N := 5) dX1_push_17 rfl (by decide) (by decide) qf_X1_91 (s_iload_n dX1_push_20 rfl (s_iastore dX1_push_21 (s_aload_n dX1_push_22 rfl (s_dup dX1_push_23 (s_getf (ci := 1) (j := 4) (C := RX1) (T := TX1) (N := 5) dX1_push_24 rfl (by decide) (by decide) qf_X1_91 (s_iconst dX1_push_27 (s_iadd dX1_push_28 (s_puti (ci := 1) (j := 4) (C := RX1) (T := TX1) (N := 5) dX1_push_29 rfl (by decide) (by decide) rfl (tyX1_ok 4 (by decide)) qf_X1_91 (s_ret dX1_push_32 rfl))))))))))))))))))
theorem dX1_init_0 : decode cX1_init 0 = .ok (.aload_n 0, 1) := by decide +kernel
theorem dX1_init_1 : decode cX1_init 1 = .ok (.invokespecial 3, 3) := by decide +kernel
theorem dX1_init_4 : decode cX1_init 4 = .ok (.aload_n 0, 1) := by decide +kernel
theorem dX1_init_5 : decode cX1_init 5 = .ok (.sipush 240, 3) := by decide +kernel
theorem dX1_init_8 : decode cX1_init 8 = .ok (.newarray .int, 2) := by decide +kernel
theorem dX1_init_10 : decode cX1_init 10 = .ok (.putfield 11, 3) := by decide +kernel
theorem dX1_init_13 : decode cX1_init 13 = .ok (.aload_n 0, 1) := by decide +kernel
theorem dX1_init_14 : decode cX1_init 14 = .ok (.bipush 6, 2) := by decide +kernel
theorem dX1_init_16 : decode cX1_init 16 = .ok (.newarray .int, 2) := by decide +kernel
theorem dX1_init_18 : decode cX1_init 18 = .ok (.putfield 17, 3) := by decide +kernel
theorem dX1_init_21 : decode cX1_init 21 = .ok (.aload_n 0, 1) := by decide +kernel
theorem dX1_init_22 : decode cX1_init 22 = .ok (.bipush 32, 2) := by decide +kernel
theorem dX1_init_24 : decode cX1_init 24 = .ok (.newarray .int, 2) := by decide +kernel
theorem dX1_init_26 : decode cX1_init 26 = .ok (.putfield 20, 3) := by decide +kernel
theorem dX1_init_29 : decode cX1_init 29 = .ok (.return_, 1) := by decide +kernel
set_option maxRecDepth 20000 in
def kX1_init_0 (g : sk_G) (d ck sk : Nat) (Q : sk_P) : sk_K := o_aload 0 (o_obj (g, d, ck, sk, xX1_init, Q) (o_aload 0 (o_i (240) (o_newa (g, d, ck, sk, xX1_init, Q) 20 240 (sk_I (fun _ => 0)) (o_puta 1 0 (o_aload 0 (o_i (6) (o_newa (g, d, ck - 1, sk - 240, xX1_init, Q) 20 6 (sk_I (fun _ => 0)) (o_puta 1 2 (o_aload 0 (o_i (32) (o_newa (g, d, ck - 1 - 1, sk - 240 - 6, xX1_init, Q) 20 32 (sk_I (fun _ => 0)) (o_puta 1 3 (o_ret (g, d, ck - 1 - 1 - 1, sk - 240 - 6 - 32, xX1_init, Q)))))))))))))))
set_option maxRecDepth 20000 in
theorem tX1_init_0 {g : sk_G} {d ck sk : Nat} {Q : sk_P} : sk_S (g, d, ck, sk, xX1_init, Q) 0 (kX1_init_0 g d ck sk Q) := s_aload_n dX1_init_0 rfl (s_obj dX1_init_1 qm_X1_3 qi_obj qc_obj (s_aload_n dX1_init_4 rfl (s_sipush dX1_init_5 rfl (s_newI (w' := (g, d, ck - 1, sk - 240, xX1_init, Q)) (N := 240) dX1_init_8 (by decide) qr_int rfl (s_putaF (ci := 1) (j := 0) (C := RX1) (T := TX1) (N := 5) dX1_init_10 rfl (by decide) (by decide) rfl rfl rfl (Or.inr ⟨_, rfl⟩) (tyX1_ok 0 (by decide)) qf_X1_11 (s_aload_n dX1_init_13 rfl (s_bipush dX1_init_14 rfl (s_newI (w' := (g, d, ck - 1 - 1, sk - 240 - 6, xX1_init, Q)) (N := 6) dX1_init_16 (by decide) qr_int rfl (s_putaF (ci := 1) (j := 2) (C := RX1) (T := TX1) (N := 5) dX1_init_18 rfl (by decide) (by decide) rfl rfl rfl (Or.inr ⟨_, rfl⟩) (tyX1_ok 2 (by decide)) qf_X1_17 (s_aload_n dX1_init_21 rfl (s_bipush dX1_init_22 rfl (s_newI (w' := (g, d, ck - 1 - 1 - 1, sk - 240 - 6 - 32, xX1_init, Q)) (N := 32) dX1_init_24 (by decide) qr_int rfl (s_putaF (ci := 1) (j := 3) (C := RX1) (T := TX1) (N := 5) dX1_init_26 rfl (by decide) (by decide) rfl rfl rfl (Or.inr ⟨_, rfl⟩) (tyX1_ok 3 (by decide)) qf_X1_20 (s_ret dX1_init_29 rfl))))))))))))))
theorem dX1_read_0 : decode cX1_read 0 = .ok (.aload_n 0, 1) := by decide +kernel
theorem dX1_read_1 : decode cX1_read 1 = .ok (.iconst 0, 1) := by decide +kernel
theorem dX1_read_2 : decode cX1_read 2 = .ok (.putfield 23, 3) := by decide +kernel
theorem dX1_read_5 : decode cX1_read 5 = .ok (.iconst 0, 1) := by decide +kernel
theorem dX1_read_6 : decode cX1_read 6 = .ok (.istore_n 2, 1) := by decide +kernel
theorem dX1_read_7 : decode cX1_read 7 = .ok (.iload_n 2, 1) := by decide +kernel
theorem dX1_read_8 : decode cX1_read 8 = .ok (.sipush 240, 3) := by decide +kernel
theorem dX1_read_11 : decode cX1_read 11 = .ok (.if_icmp .ge 40, 3) := by decide +kernel
theorem dX1_read_14 : decode cX1_read 14 = .ok (.aload_n 0, 1) := by decide +kernel
theorem dX1_read_15 : decode cX1_read 15 = .ok (.aload_n 1, 1) := by decide +kernel
theorem dX1_read_16 : decode cX1_read 16 = .ok (.invokevirtual 27, 3) := by decide +kernel
theorem dX1_read_19 : decode cX1_read 19 = .ok (.ifCond .ne 5, 3) := by decide +kernel
theorem dX1_read_22 : decode cX1_read 22 = .ok (.iconst 0, 1) := by decide +kernel
theorem dX1_read_23 : decode cX1_read 23 = .ok (.ireturn, 1) := by decide +kernel
theorem dX1_read_24 : decode cX1_read 24 = .ok (.aload_n 1, 1) := by decide +kernel
theorem dX1_read_25 : decode cX1_read 25 = .ok (.invokevirtual 31, 3) := by decide +kernel
theorem dX1_read_28 : decode cX1_read 28 = .ok (.iconst (-1), 1) := by decide +kernel
theorem dX1_read_29 : decode cX1_read 29 = .ok (.if_icmp .ne 5, 3) := by decide +kernel
theorem dX1_read_32 : decode cX1_read 32 = .ok (.iconst 1, 1) := by decide +kernel
theorem dX1_read_33 : decode cX1_read 33 = .ok (.ireturn, 1) := by decide +kernel
theorem dX1_read_34 : decode cX1_read 34 = .ok (.aload_n 1, 1) := by decide +kernel
theorem dX1_read_35 : decode cX1_read 35 = .ok (.bipush 59, 2) := by decide +kernel
theorem dX1_read_37 : decode cX1_read 37 = .ok (.invokevirtual 35, 3) := by decide +kernel
theorem dX1_read_40 : decode cX1_read 40 = .ok (.ifCond .ne 5, 3) := by decide +kernel
theorem dX1_read_43 : decode cX1_read 43 = .ok (.iconst 0, 1) := by decide +kernel
theorem dX1_read_44 : decode cX1_read 44 = .ok (.ireturn, 1) := by decide +kernel
theorem dX1_read_45 : decode cX1_read 45 = .ok (.iinc 2 1, 3) := by decide +kernel
theorem dX1_read_48 : decode cX1_read 48 = .ok (.goto (-41), 3) := by decide +kernel
theorem dX1_read_51 : decode cX1_read 51 = .ok (.iconst 0, 1) := by decide +kernel
theorem dX1_read_52 : decode cX1_read 52 = .ok (.ireturn, 1) := by decide +kernel
def kX1_read_0 (g : sk_G) (d ck sk : Nat) (Q : sk_P) : sk_K := o_aload 0 (o_i (0) (o_puti 1 1 (o_i (0) (o_istore 2 (sk_B (g, d, ck, sk, xX1_read, Q) 7)))))
theorem tX1_read_0 {g : sk_G} {d ck sk : Nat} {Q : sk_P} : sk_S (g, d, ck, sk, xX1_read, Q) 0 (kX1_read_0 g d ck sk Q) := s_aload_n dX1_read_0 rfl (s_iconst dX1_read_1 (s_puti (ci := 1) (j := 1) (C := RX1) (T := TX1) (N := 5) dX1_read_2 rfl (by decide) (by decide) rfl (tyX1_ok 1 (by decide)) qf_X1_23 (s_iconst dX1_read_5 (s_istore_n dX1_read_6 rfl (by decide : 2 < 3) (sk_id)))))
set_option maxRecDepth 20000 in
def kX1_read_7 (g : sk_G) (d ck sk : Nat) (Q : sk_P) : sk_K := o_iload 2 (o_i (240) (o_icge (o_i (0) (o_zret (g, d, ck, sk, xX1_read, Q))) (o_aload 0 (o_aload 1 (o_invB (g, d, ck, sk, xX1_read, Q) xX1_readClause 1 1 0 0 (o_ifne (o_aload 1 (o_invB (g, d, ck, sk, xX1_read, Q) xX9_peek 0 9 0 0 (o_i (-1) (o_icne (o_aload 1 (o_i (59) (o_invB (g, d, ck, sk, xX1_read, Q) xX9_eats 1 9 0 0 (o_ifne (o_iinc 2 (1) (sk_B (g, d, ck, sk, xX1_read, Q) 7)) (o_i (0) (o_zret (g, d, ck, sk, xX1_read, Q))))))) (o_i (1) (o_zret (g, d, ck, sk, xX1_read, Q))))))) (o_i (0) (o_zret (g, d, ck, sk, xX1_read, Q)))))))))
set_option maxRecDepth 20000 in
theorem tX1_read_7 {g : sk_G} {d ck sk : Nat} {Q : sk_P} : sk_S (g, d, ck, sk, xX1_read, Q) 7 (kX1_read_7 g d ck sk Q) := s_iload_n dX1_read_7 rfl (s_sipush dX1_read_8 rfl (s_icge (tgt := 51) dX1_read_11 (by decide) (s_iconst dX1_read_51 (s_zret dX1_read_52 rfl)) (s_aload_n dX1_read_14 rfl (s_aload_n dX1_read_15 rfl (s_invB (w' := (g, d, ck, sk, xX1_read, Q)) (ci := 1) (ck := 0) (sk := 0) (T := TX1) (N := 5) dX1_read_16 m_X1_readClause rfl (by decide) qm_X1_27 qi_X1_readClause qe_X1_readClause rfl (s_ifne (tgt := 24) dX1_read_19 (by decide) (s_aload_n dX1_read_24 rfl (s_invB (w' := (g, d, ck, sk, xX1_read, Q)) (ci := 9) (ck := 0) (sk := 0) (T := TX9) (N := 3) dX1_read_25 m_X9_peek rfl (by decide) qm_X1_31 qi_X9_peek qe_X9_peek rfl (s_iconst dX1_read_28 (s_icne (tgt := 34) dX1_read_29 (by decide) (s_aload_n dX1_read_34 rfl (s_bipush dX1_read_35 rfl (s_invB (w' := (g, d, ck, sk, xX1_read, Q)) (ci := 9) (ck := 0) (sk := 0) (T := TX9) (N := 3) dX1_read_37 m_X9_eats rfl (by decide) qm_X1_35 qi_X9_eats qe_X9_eats rfl (s_ifne (tgt := 45) dX1_read_40 (by decide) (s_iinc dX1_read_45 (by decide : 2 < 3) (s_goto (tgt := 7) dX1_read_48 (by decide) (sk_id))) (s_iconst dX1_read_43 (s_zret dX1_read_44 rfl)))))) (s_iconst dX1_read_32 (s_zret dX1_read_33 rfl)))))) (s_iconst dX1_read_22 (s_zret dX1_read_23 rfl))))))))
theorem dX1_readClause_0 : decode cX1_readClause 0 = .ok (.aload_n 1, 1) := by decide +kernel
theorem dX1_readClause_1 : decode cX1_readClause 1 = .ok (.bipush 121, 2) := by decide +kernel
theorem dX1_readClause_3 : decode cX1_readClause 3 = .ok (.invokevirtual 35, 3) := by decide +kernel
theorem dX1_readClause_6 : decode cX1_readClause 6 = .ok (.ifCond .eq 12, 3) := by decide +kernel
theorem dX1_readClause_9 : decode cX1_readClause 9 = .ok (.aload_n 1, 1) := by decide +kernel
theorem dX1_readClause_10 : decode cX1_readClause 10 = .ok (.bipush 58, 2) := by decide +kernel
theorem dX1_readClause_12 : decode cX1_readClause 12 = .ok (.invokevirtual 35, 3) := by decide +kernel
theorem dX1_readClause_15 : decode cX1_readClause 15 = .ok (.ifCond .ne 5, 3) := by decide +kernel
theorem dX1_readClause_18 : decode cX1_readClause 18 = .ok (.iconst 0, 1) := by decide +kernel
theorem dX1_readClause_19 : decode cX1_readClause 19 = .ok (.ireturn, 1) := by decide +kernel
theorem dX1_readClause_20 : decode cX1_readClause 20 = .ok (.aload_n 1, 1) := by decide +kernel
theorem dX1_readClause_21 : decode cX1_readClause 21 = .ok (.ldc 39, 2) := by decide +kernel
theorem dX1_readClause_23 : decode cX1_readClause 23 = .ok (.invokevirtual 41, 3) := by decide +kernel
theorem dX1_readClause_26 : decode cX1_readClause 26 = .ok (.ifCond .ge 7, 3) := by decide +kernel
theorem dX1_readClause_29 : decode cX1_readClause 29 = .ok (.iconst 1, 1) := by decide +kernel
theorem dX1_readClause_30 : decode cX1_readClause 30 = .ok (.goto 4, 3) := by decide +kernel
theorem dX1_readClause_33 : decode cX1_readClause 33 = .ok (.iconst 0, 1) := by decide +kernel
theorem dX1_readClause_34 : decode cX1_readClause 34 = .ok (.istore_n 2, 1) := by decide +kernel
theorem dX1_readClause_35 : decode cX1_readClause 35 = .ok (.iload_n 2, 1) := by decide +kernel
theorem dX1_readClause_36 : decode cX1_readClause 36 = .ok (.ifCond .eq 32, 3) := by decide +kernel
theorem dX1_readClause_39 : decode cX1_readClause 39 = .ok (.aload_n 0, 1) := by decide +kernel
theorem dX1_readClause_40 : decode cX1_readClause 40 = .ok (.aload_n 1, 1) := by decide +kernel
theorem dX1_readClause_41 : decode cX1_readClause 41 = .ok (.iconst 0, 1) := by decide +kernel
theorem dX1_readClause_42 : decode cX1_readClause 42 = .ok (.invokevirtual 45, 3) := by decide +kernel
theorem dX1_readClause_45 : decode cX1_readClause 45 = .ok (.ifCond .ne 5, 3) := by decide +kernel
theorem dX1_readClause_48 : decode cX1_readClause 48 = .ok (.iconst 0, 1) := by decide +kernel
theorem dX1_readClause_49 : decode cX1_readClause 49 = .ok (.ireturn, 1) := by decide +kernel
theorem dX1_readClause_50 : decode cX1_readClause 50 = .ok (.aload_n 1, 1) := by decide +kernel
theorem dX1_readClause_51 : decode cX1_readClause 51 = .ok (.ldc 49, 2) := by decide +kernel
theorem dX1_readClause_53 : decode cX1_readClause 53 = .ok (.invokevirtual 41, 3) := by decide +kernel
theorem dX1_readClause_56 : decode cX1_readClause 56 = .ok (.ifCond .ge 12, 3) := by decide +kernel
theorem dX1_readClause_59 : decode cX1_readClause 59 = .ok (.aload_n 0, 1) := by decide +kernel
theorem dX1_readClause_60 : decode cX1_readClause 60 = .ok (.bipush 13, 2) := by decide +kernel
theorem dX1_readClause_62 : decode cX1_readClause 62 = .ok (.iconst 0, 1) := by decide +kernel
theorem dX1_readClause_63 : decode cX1_readClause 63 = .ok (.invokevirtual 51, 3) := by decide +kernel
theorem dX1_readClause_66 : decode cX1_readClause 66 = .ok (.iconst 1, 1) := by decide +kernel
theorem dX1_readClause_67 : decode cX1_readClause 67 = .ok (.ireturn, 1) := by decide +kernel
theorem dX1_readClause_68 : decode cX1_readClause 68 = .ok (.aload_n 0, 1) := by decide +kernel
theorem dX1_readClause_69 : decode cX1_readClause 69 = .ok (.aload_n 1, 1) := by decide +kernel
theorem dX1_readClause_70 : decode cX1_readClause 70 = .ok (.iconst 0, 1) := by decide +kernel
theorem dX1_readClause_71 : decode cX1_readClause 71 = .ok (.iload_n 2, 1) := by decide +kernel
theorem dX1_readClause_72 : decode cX1_readClause 72 = .ok (.invokevirtual 55, 3) := by decide +kernel
theorem dX1_readClause_75 : decode cX1_readClause 75 = .ok (.ifCond .eq 12, 3) := by decide +kernel
theorem dX1_readClause_78 : decode cX1_readClause 78 = .ok (.aload_n 1, 1) := by decide +kernel
theorem dX1_readClause_79 : decode cX1_readClause 79 = .ok (.bipush 63, 2) := by decide +kernel
theorem dX1_readClause_81 : decode cX1_readClause 81 = .ok (.invokevirtual 35, 3) := by decide +kernel
theorem dX1_readClause_84 : decode cX1_readClause 84 = .ok (.ifCond .ne 5, 3) := by decide +kernel
theorem dX1_readClause_87 : decode cX1_readClause 87 = .ok (.iconst 0, 1) := by decide +kernel
theorem dX1_readClause_88 : decode cX1_readClause 88 = .ok (.ireturn, 1) := by decide +kernel
theorem dX1_readClause_89 : decode cX1_readClause 89 = .ok (.aload_n 0, 1) := by decide +kernel
theorem dX1_readClause_90 : decode cX1_readClause 90 = .ok (.getfield 23, 3) := by decide +kernel
theorem dX1_readClause_93 : decode cX1_readClause 93 = .ok (.istore_n 3, 1) := by decide +kernel
theorem dX1_readClause_94 : decode cX1_readClause 94 = .ok (.aload_n 0, 1) := by decide +kernel
theorem dX1_readClause_95 : decode cX1_readClause 95 = .ok (.bipush 12, 2) := by decide +kernel
theorem dX1_readClause_97 : decode cX1_readClause 97 = .ok (.iconst 0, 1) := by decide +kernel
theorem dX1_readClause_98 : decode cX1_readClause 98 = .ok (.invokevirtual 51, 3) := by decide +kernel
theorem dX1_readClause_101 : decode cX1_readClause 101 = .ok (.aload_n 0, 1) := by decide +kernel
theorem dX1_readClause_102 : decode cX1_readClause 102 = .ok (.aload_n 1, 1) := by decide +kernel
theorem dX1_readClause_103 : decode cX1_readClause 103 = .ok (.iconst 0, 1) := by decide +kernel
theorem dX1_readClause_104 : decode cX1_readClause 104 = .ok (.invokevirtual 45, 3) := by decide +kernel
theorem dX1_readClause_107 : decode cX1_readClause 107 = .ok (.ifCond .ne 5, 3) := by decide +kernel
theorem dX1_readClause_110 : decode cX1_readClause 110 = .ok (.iconst 0, 1) := by decide +kernel
theorem dX1_readClause_111 : decode cX1_readClause 111 = .ok (.ireturn, 1) := by decide +kernel
theorem dX1_readClause_112 : decode cX1_readClause 112 = .ok (.aload_n 0, 1) := by decide +kernel
theorem dX1_readClause_113 : decode cX1_readClause 113 = .ok (.bipush 13, 2) := by decide +kernel
theorem dX1_readClause_115 : decode cX1_readClause 115 = .ok (.iconst 0, 1) := by decide +kernel
theorem dX1_readClause_116 : decode cX1_readClause 116 = .ok (.invokevirtual 51, 3) := by decide +kernel
theorem dX1_readClause_119 : decode cX1_readClause 119 = .ok (.iload_n 3, 1) := by decide +kernel
theorem dX1_readClause_120 : decode cX1_readClause 120 = .ok (.aload_n 0, 1) := by decide +kernel
theorem dX1_readClause_121 : decode cX1_readClause 121 = .ok (.getfield 11, 3) := by decide +kernel
theorem dX1_readClause_124 : decode cX1_readClause 124 = .ok (.arraylength, 1) := by decide +kernel
theorem dX1_readClause_125 : decode cX1_readClause 125 = .ok (.if_icmp .ge 18, 3) := by decide +kernel
theorem dX1_readClause_128 : decode cX1_readClause 128 = .ok (.aload_n 0, 1) := by decide +kernel
theorem dX1_readClause_129 : decode cX1_readClause 129 = .ok (.getfield 11, 3) := by decide +kernel
theorem dX1_readClause_132 : decode cX1_readClause 132 = .ok (.iload_n 3, 1) := by decide +kernel
theorem dX1_readClause_133 : decode cX1_readClause 133 = .ok (.bipush 12, 2) := by decide +kernel
theorem dX1_readClause_135 : decode cX1_readClause 135 = .ok (.aload_n 0, 1) := by decide +kernel
theorem dX1_readClause_136 : decode cX1_readClause 136 = .ok (.getfield 23, 3) := by decide +kernel
theorem dX1_readClause_139 : decode cX1_readClause 139 = .ok (.iconst 4, 1) := by decide +kernel
theorem dX1_readClause_140 : decode cX1_readClause 140 = .ok (.ishl, 1) := by decide +kernel
theorem dX1_readClause_141 : decode cX1_readClause 141 = .ok (.ior, 1) := by decide +kernel
theorem dX1_readClause_142 : decode cX1_readClause 142 = .ok (.iastore, 1) := by decide +kernel
theorem dX1_readClause_143 : decode cX1_readClause 143 = .ok (.iconst 1, 1) := by decide +kernel
theorem dX1_readClause_144 : decode cX1_readClause 144 = .ok (.ireturn, 1) := by decide +kernel
set_option maxRecDepth 20000 in
def kX1_readClause_0 (g : sk_G) (d ck sk : Nat) (Q : sk_P) : sk_K := o_aload 1 (o_i (121) (o_invB (g, d, ck, sk, xX1_readClause, Q) xX9_eats 1 9 0 0 (o_ifeq (o_i (0) (o_zret (g, d, ck, sk, xX1_readClause, Q))) (o_aload 1 (o_i (58) (o_invB (g, d, ck, sk, xX1_readClause, Q) xX9_eats 1 9 0 0 (o_ifne (o_aload 1 (o_lds (g, d, ck, sk, xX1_readClause, Q) 2 (o_invB (g, d, ck, sk, xX1_readClause, Q) xX9_peekAmong 1 9 0 0 (o_ifge (o_i (0) (sk_B (g, d, ck, sk, xX1_readClause, Q) 34)) (o_i (1) (sk_B (g, d, ck, sk, xX1_readClause, Q) 34)))))) (o_i (0) (o_zret (g, d, ck, sk, xX1_readClause, Q))))))))))
set_option maxRecDepth 20000 in
theorem tX1_readClause_0 {g : sk_G} {d ck sk : Nat} {Q : sk_P} : sk_S (g, d, ck, sk, xX1_readClause, Q) 0 (kX1_readClause_0 g d ck sk Q) := s_aload_n dX1_readClause_0 rfl (s_bipush dX1_readClause_1 rfl (s_invB (w' := (g, d, ck, sk, xX1_readClause, Q)) (ci := 9) (ck := 0) (sk := 0) (T := TX9) (N := 3) dX1_readClause_3 m_X9_eats rfl (by decide) qm_X1_35 qi_X9_eats qe_X9_eats rfl (s_ifeq (tgt := 18) dX1_readClause_6 (by decide) (s_iconst dX1_readClause_18 (s_zret dX1_readClause_19 rfl)) (s_aload_n dX1_readClause_9 rfl (s_bipush dX1_readClause_10 rfl (s_invB (w' := (g, d, ck, sk, xX1_readClause, Q)) (ci := 9) (ck := 0) (sk := 0) (T := TX9) (N := 3) dX1_readClause_12 m_X9_eats rfl (by decide) qm_X1_35 qi_X9_eats qe_X9_eats rfl (s_ifne (tgt := 20) dX1_readClause_15 (by decide) (s_aload_n dX1_readClause_20 rfl (s_lds dX1_readClause_21 (i := 2) (by decide) rfl rfl (s_invB (w' := (g, d, ck, sk, xX1_readClause, Q)) (ci := 9) (ck := 0) (sk := 0) (T := TX9) (N := 3) dX1_readClause_23 m_X9_peekAmong rfl (by decide) qm_X1_41 qi_X9_peekAmong qe_X9_peekAmong rfl (s_ifge (tgt := 33) dX1_readClause_26 (by decide) (s_iconst dX1_readClause_33 (sk_id)) (s_iconst dX1_readClause_29 (s_goto (tgt := 34) dX1_readClause_30 (by decide) (sk_id))))))) (s_iconst dX1_readClause_18 (s_zret dX1_readClause_19 rfl)))))))))
set_option maxRecDepth 20000 in
def kX1_readClause_34 (g : sk_G) (d ck sk : Nat) (Q : sk_P) : sk_K := o_istore 2 (o_iload 2 (o_ifeq (sk_B (g, d, ck, sk, xX1_readClause, Q) 68) (o_aload 0 (o_aload 1 (o_i (0) (o_invB (g, d, ck, sk, xX1_readClause, Q) xX1_readSum 2 1 0 0 (o_ifne (o_aload 1 (o_lds (g, d, ck, sk, xX1_readClause, Q) 6 (o_invB (g, d, ck, sk, xX1_readClause, Q) xX9_peekAmong 1 9 0 0 (o_ifge (sk_B (g, d, ck, sk, xX1_readClause, Q) 68) (o_aload 0 (o_i (13) (o_i (0) (o_invB (g, d, ck, sk, xX1_readClause, Q) xX1_add 2 1 0 0 (o_i (1) (o_zret (g, d, ck, sk, xX1_readClause, Q))))))))))) (o_i (0) (o_zret (g, d, ck, sk, xX1_readClause, Q))))))))))
set_option maxRecDepth 20000 in
theorem tX1_readClause_34 {g : sk_G} {d ck sk : Nat} {Q : sk_P} : sk_S (g, d, ck, sk, xX1_readClause, Q) 34 (kX1_readClause_34 g d ck sk Q) := s_istore_n dX1_readClause_34 rfl (by decide : 2 < 4) (s_iload_n dX1_readClause_35 rfl (s_ifeq (tgt := 68) dX1_readClause_36 (by decide) (sk_id) (s_aload_n dX1_readClause_39 rfl (s_aload_n dX1_readClause_40 rfl (s_iconst dX1_readClause_41 (s_invB (w' := (g, d, ck, sk, xX1_readClause, Q)) (ci := 1) (ck := 0) (sk := 0) (T := TX1) (N := 5) dX1_readClause_42 m_X1_readSum rfl (by decide) qm_X1_45 qi_X1_readSum qe_X1_readSum rfl (s_ifne (tgt := 50) dX1_readClause_45 (by decide) (s_aload_n dX1_readClause_50 rfl (s_lds dX1_readClause_51 (i := 6) (by decide) rfl rfl (s_invB (w' := (g, d, ck, sk, xX1_readClause, Q)) (ci := 9) (ck := 0) (sk := 0) (T := TX9) (N := 3) dX1_readClause_53 m_X9_peekAmong rfl (by decide) qm_X1_41 qi_X9_peekAmong qe_X9_peekAmong rfl (s_ifge (tgt := 68) dX1_readClause_56 (by decide) (sk_id) (s_aload_n dX1_readClause_59 rfl (s_bipush dX1_readClause_60 rfl (s_iconst dX1_readClause_62 (s_invB (w' := (g, d, ck, sk, xX1_readClause, Q)) (ci := 1) (ck := 0) (sk := 0) (T := TX1) (N := 5) dX1_readClause_63 m_X1_add rfl (by decide) qm_X1_51 qi_X1_add qe_X1_add rfl (s_iconst dX1_readClause_66 (s_zret dX1_readClause_67 rfl)))))))))) (s_iconst dX1_readClause_48 (s_zret dX1_readClause_49 rfl)))))))))
set_option maxRecDepth 20000 in
def kX1_readClause_68 (g : sk_G) (d ck sk : Nat) (Q : sk_P) : sk_K := o_aload 0 (o_aload 1 (o_i (0) (o_iload 2 (o_invB (g, d, ck, sk, xX1_readClause, Q) xX1_readCondition 3 1 0 0 (o_ifeq (o_i (0) (o_zret (g, d, ck, sk, xX1_readClause, Q))) (o_aload 1 (o_i (63) (o_invB (g, d, ck, sk, xX1_readClause, Q) xX9_eats 1 9 0 0 (o_ifne (o_aload 0 (o_getf 1 1 (o_istore 3 (o_aload 0 (o_i (12) (o_i (0) (o_invB (g, d, ck, sk, xX1_readClause, Q) xX1_add 2 1 0 0 (o_aload 0 (o_aload 1 (o_i (0) (o_invB (g, d, ck, sk, xX1_readClause, Q) xX1_readSum 2 1 0 0 (o_ifne (o_aload 0 (o_i (13) (o_i (0) (o_invB (g, d, ck, sk, xX1_readClause, Q) xX1_add 2 1 0 0 (o_iload 3 (o_aload 0 (o_getf 1 0 (o_alen (o_icge (o_i (1) (o_zret (g, d, ck, sk, xX1_readClause, Q))) (o_aload 0 (o_getf 1 0 (o_iload 3 (o_i (12) (o_aload 0 (o_getf 1 1 (o_i (4) (o_ishl (o_ior (o_iastore (o_i (1) (o_zret (g, d, ck, sk, xX1_readClause, Q)))))))))))))))))))))) (o_i (0) (o_zret (g, d, ck, sk, xX1_readClause, Q))))))))))))))) (o_i (0) (o_zret (g, d, ck, sk, xX1_readClause, Q))))))))))))
set_option maxRecDepth 20000 in
theorem tX1_readClause_68 {g : sk_G} {d ck sk : Nat} {Q : sk_P} : sk_S (g, d, ck, sk, xX1_readClause, Q) 68 (kX1_readClause_68 g d ck sk Q) := s_aload_n dX1_readClause_68 rfl (s_aload_n dX1_readClause_69 rfl (s_iconst dX1_readClause_70 (s_iload_n dX1_readClause_71 rfl (s_invB (w' := (g, d, ck, sk, xX1_readClause, Q)) (ci := 1) (ck := 0) (sk := 0) (T := TX1) (N := 5) dX1_readClause_72 m_X1_readCondition rfl (by decide) qm_X1_55 qi_X1_readCondition qe_X1_readCondition rfl (s_ifeq (tgt := 87) dX1_readClause_75 (by decide) (s_iconst dX1_readClause_87 (s_zret dX1_readClause_88 rfl)) (s_aload_n dX1_readClause_78 rfl (s_bipush dX1_readClause_79 rfl (s_invB (w' := (g, d, ck, sk, xX1_readClause, Q)) (ci := 9) (ck := 0) (sk := 0) (T := TX9) (N := 3) dX1_readClause_81 m_X9_eats rfl (by decide) qm_X1_35 qi_X9_eats qe_X9_eats rfl (s_ifne (tgt := 89) dX1_readClause_84 (by decide) (s_aload_n dX1_readClause_89 rfl (s_getf (ci := 1) (j := 1) (C := RX1) (T := TX1) (N := 5) dX1_readClause_90 rfl (by decide) (by decide) qf_X1_23 (s_istore_n dX1_readClause_93 rfl (by decide : 3 < 4) (s_aload_n dX1_readClause_94 rfl (s_bipush dX1_readClause_95 rfl (s_iconst dX1_readClause_97 (s_invB (w' := (g, d, ck, sk, xX1_readClause, Q)) (ci := 1) (ck := 0) (sk := 0) (T := TX1) (N := 5) dX1_readClause_98 m_X1_add rfl (by decide) qm_X1_51 qi_X1_add qe_X1_add rfl (s_aload_n dX1_readClause_101 rfl (s_aload_n dX1_readClause_102 rfl (s_iconst dX1_readClause_103 (s_invB (w' := (g, d, ck, sk, xX1_readClause, Q)) (ci := 1) (ck := 0) (sk := 0) (T := TX1) (N := 5) dX1_readClause_104 m_X1_readSum rfl (by decide) qm_X1_45 qi_X1_readSum qe_X1_readSum rfl (s_ifne (tgt := 112) dX1_readClause_107 (by decide) (s_aload_n dX1_readClause_112 rfl (s_bipush dX1_readClause_113 rfl (s_iconst dX1_readClause_115 (s_invB (w' := (g, d, ck, sk, xX1_readClause, Q)) (ci := 1) (ck := 0) (sk := 0) (T := TX1) (N := 5) dX1_readClause_116 m_X1_add rfl (by decide) qm_X1_51 qi_X1_add qe_X1_add rfl (s_iload_n dX1_readClause_119 rfl (s_aload_n dX1_readClause_120 rfl (s_getf (ci := 1) (j := 0) (C := RX1) (T := TX1) (N := 5) dX1_readClause_121 rfl (by decide) (by decide) qf_X1_11 (s_alen dX1_readClause_124 (s_icge (tgt := 143) dX1_readClause_125 (by decide) (s_iconst dX1_readClause_143 (s_zret dX1_readClause_144 rfl)) (s_aload_n dX1_readClause_128 rfl (s_getf (ci := 1) (j := 0) (C := RX1) (T := TX1) (N := 5) dX1_readClause_129 rfl (by decide) (by decide) qf_X1_11 (s_iload_n dX1_readClause_132 rfl (s_bipush dX1_readClause_133 rfl (s_aload_n dX1_readClause_135 rfl (s_getf (ci := 1) (j := 1) (C := RX1) (T := TX1) (N := 5) dX1_readClause_136 rfl (by decide) (by decide) qf_X1_23 (s_iconst dX1_readClause_139 (s_ishl dX1_readClause_140 (s_ior dX1_readClause_141 (s_iastore dX1_readClause_142 (s_iconst dX1_readClause_143 (s_zret dX1_readClause_144 rfl))))))))))))))))))))) (s_iconst dX1_readClause_110 (s_zret dX1_readClause_111 rfl)))))))))))))) (s_iconst dX1_readClause_87 (s_zret dX1_readClause_88 rfl)))))))))))
theorem dX1_readSum_0 : decode cX1_readSum 0 = .ok (.aload_n 0, 1) := by decide +kernel
theorem dX1_readSum_1 : decode cX1_readSum 1 = .ok (.aload_n 1, 1) := by decide +kernel
theorem dX1_readSum_2 : decode cX1_readSum 2 = .ok (.iload_n 2, 1) := by decide +kernel
theorem dX1_readSum_3 : decode cX1_readSum 3 = .ok (.invokevirtual 71, 3) := by decide +kernel
theorem dX1_readSum_6 : decode cX1_readSum 6 = .ok (.ifCond .ne 5, 3) := by decide +kernel
theorem dX1_readSum_9 : decode cX1_readSum 9 = .ok (.iconst 0, 1) := by decide +kernel
theorem dX1_readSum_10 : decode cX1_readSum 10 = .ok (.ireturn, 1) := by decide +kernel
theorem dX1_readSum_11 : decode cX1_readSum 11 = .ok (.iconst 0, 1) := by decide +kernel
theorem dX1_readSum_12 : decode cX1_readSum 12 = .ok (.istore_n 3, 1) := by decide +kernel
theorem dX1_readSum_13 : decode cX1_readSum 13 = .ok (.iload_n 3, 1) := by decide +kernel
theorem dX1_readSum_14 : decode cX1_readSum 14 = .ok (.sipush 240, 3) := by decide +kernel
theorem dX1_readSum_17 : decode cX1_readSum 17 = .ok (.if_icmp .ge 48, 3) := by decide +kernel
theorem dX1_readSum_20 : decode cX1_readSum 20 = .ok (.aload_n 1, 1) := by decide +kernel
theorem dX1_readSum_21 : decode cX1_readSum 21 = .ok (.ldc 74, 2) := by decide +kernel
theorem dX1_readSum_23 : decode cX1_readSum 23 = .ok (.invokevirtual 41, 3) := by decide +kernel
theorem dX1_readSum_26 : decode cX1_readSum 26 = .ok (.istore 4, 2) := by decide +kernel
theorem dX1_readSum_28 : decode cX1_readSum 28 = .ok (.iload 4, 2) := by decide +kernel
theorem dX1_readSum_30 : decode cX1_readSum 30 = .ok (.ifCond .ge 5, 3) := by decide +kernel
theorem dX1_readSum_33 : decode cX1_readSum 33 = .ok (.iconst 1, 1) := by decide +kernel
theorem dX1_readSum_34 : decode cX1_readSum 34 = .ok (.ireturn, 1) := by decide +kernel
theorem dX1_readSum_35 : decode cX1_readSum 35 = .ok (.aload_n 1, 1) := by decide +kernel
theorem dX1_readSum_36 : decode cX1_readSum 36 = .ok (.invokevirtual 68, 3) := by decide +kernel
theorem dX1_readSum_39 : decode cX1_readSum 39 = .ok (.aload_n 0, 1) := by decide +kernel
theorem dX1_readSum_40 : decode cX1_readSum 40 = .ok (.aload_n 1, 1) := by decide +kernel
theorem dX1_readSum_41 : decode cX1_readSum 41 = .ok (.iload_n 2, 1) := by decide +kernel
theorem dX1_readSum_42 : decode cX1_readSum 42 = .ok (.invokevirtual 71, 3) := by decide +kernel
theorem dX1_readSum_45 : decode cX1_readSum 45 = .ok (.ifCond .ne 5, 3) := by decide +kernel
theorem dX1_readSum_48 : decode cX1_readSum 48 = .ok (.iconst 0, 1) := by decide +kernel
theorem dX1_readSum_49 : decode cX1_readSum 49 = .ok (.ireturn, 1) := by decide +kernel
theorem dX1_readSum_50 : decode cX1_readSum 50 = .ok (.aload_n 0, 1) := by decide +kernel
theorem dX1_readSum_51 : decode cX1_readSum 51 = .ok (.iconst 2, 1) := by decide +kernel
theorem dX1_readSum_52 : decode cX1_readSum 52 = .ok (.iload 4, 2) := by decide +kernel
theorem dX1_readSum_54 : decode cX1_readSum 54 = .ok (.iadd, 1) := by decide +kernel
theorem dX1_readSum_55 : decode cX1_readSum 55 = .ok (.iconst 0, 1) := by decide +kernel
theorem dX1_readSum_56 : decode cX1_readSum 56 = .ok (.invokevirtual 51, 3) := by decide +kernel
theorem dX1_readSum_59 : decode cX1_readSum 59 = .ok (.iinc 3 1, 3) := by decide +kernel
theorem dX1_readSum_62 : decode cX1_readSum 62 = .ok (.goto (-49), 3) := by decide +kernel
theorem dX1_readSum_65 : decode cX1_readSum 65 = .ok (.iconst 1, 1) := by decide +kernel
theorem dX1_readSum_66 : decode cX1_readSum 66 = .ok (.ireturn, 1) := by decide +kernel
def kX1_readSum_0 (g : sk_G) (d ck sk : Nat) (Q : sk_P) : sk_K := o_aload 0 (o_aload 1 (o_iload 2 (o_invB (g, d, ck, sk, xX1_readSum, Q) xX1_readTerm 2 1 0 0 (o_ifne (o_i (0) (o_istore 3 (sk_B (g, d, ck, sk, xX1_readSum, Q) 13))) (o_i (0) (o_zret (g, d, ck, sk, xX1_readSum, Q)))))))
theorem tX1_readSum_0 {g : sk_G} {d ck sk : Nat} {Q : sk_P} : sk_S (g, d, ck, sk, xX1_readSum, Q) 0 (kX1_readSum_0 g d ck sk Q) := s_aload_n dX1_readSum_0 rfl (s_aload_n dX1_readSum_1 rfl (s_iload_n dX1_readSum_2 rfl (s_invB (w' := (g, d, ck, sk, xX1_readSum, Q)) (ci := 1) (ck := 0) (sk := 0) (T := TX1) (N := 5) dX1_readSum_3 m_X1_readTerm rfl (by decide) qm_X1_71 qi_X1_readTerm qe_X1_readTerm rfl (s_ifne (tgt := 11) dX1_readSum_6 (by decide) (s_iconst dX1_readSum_11 (s_istore_n dX1_readSum_12 rfl (by decide : 3 < 5) (sk_id))) (s_iconst dX1_readSum_9 (s_zret dX1_readSum_10 rfl))))))
set_option maxRecDepth 20000 in
def kX1_readSum_13 (g : sk_G) (d ck sk : Nat) (Q : sk_P) : sk_K := o_iload 3 (o_i (240) (o_icge (o_i (1) (o_zret (g, d, ck, sk, xX1_readSum, Q))) (o_aload 1 (o_lds (g, d, ck, sk, xX1_readSum, Q) 5 (o_invB (g, d, ck, sk, xX1_readSum, Q) xX9_peekAmong 1 9 0 0 (o_istore 4 (o_iload 4 (o_ifge (o_aload 1 (o_invT (g, d, ck, sk, xX1_readSum, Q) 1 0 9 (fun Q => kX9_step_0 g (d - 1) 0 0 Q) (o_aload 0 (o_aload 1 (o_iload 2 (o_invB (g, d, ck, sk, xX1_readSum, Q) xX1_readTerm 2 1 0 0 (o_ifne (o_aload 0 (o_i (2) (o_iload 4 (o_iadd (o_i (0) (o_invB (g, d, ck, sk, xX1_readSum, Q) xX1_add 2 1 0 0 (o_iinc 3 (1) (sk_B (g, d, ck, sk, xX1_readSum, Q) 13)))))))) (o_i (0) (o_zret (g, d, ck, sk, xX1_readSum, Q)))))))))) (o_i (1) (o_zret (g, d, ck, sk, xX1_readSum, Q)))))))))))
set_option maxRecDepth 20000 in
theorem tX1_readSum_13 {g : sk_G} {d ck sk : Nat} {Q : sk_P} : sk_S (g, d, ck, sk, xX1_readSum, Q) 13 (kX1_readSum_13 g d ck sk Q) := s_iload_n dX1_readSum_13 rfl (s_sipush dX1_readSum_14 rfl (s_icge (tgt := 65) dX1_readSum_17 (by decide) (s_iconst dX1_readSum_65 (s_zret dX1_readSum_66 rfl)) (s_aload_n dX1_readSum_20 rfl (s_lds dX1_readSum_21 (i := 5) (by decide) rfl rfl (s_invB (w' := (g, d, ck, sk, xX1_readSum, Q)) (ci := 9) (ck := 0) (sk := 0) (T := TX9) (N := 3) dX1_readSum_23 m_X9_peekAmong rfl (by decide) qm_X1_41 qi_X9_peekAmong qe_X9_peekAmong rfl (s_istore dX1_readSum_26 (by decide : 4 < 5) (s_iload dX1_readSum_28 (s_ifge (tgt := 35) dX1_readSum_30 (by decide) (s_aload_n dX1_readSum_35 rfl (s_invT (X := xX9_step) (ci := 9) (T := TX9) (N := 3) (K := (fun Q => kX9_step_0 g (d - 1) 0 0 Q)) (fun _ => tX9_step_0) rfl dX1_readSum_36 m_X9_step rfl (by decide) qm_X1_68 qi_X9_step qe_X9_step (s_aload_n dX1_readSum_39 rfl (s_aload_n dX1_readSum_40 rfl (s_iload_n dX1_readSum_41 rfl (s_invB (w' := (g, d, ck, sk, xX1_readSum, Q)) (ci := 1) (ck := 0) (sk := 0) (T := TX1) (N := 5) dX1_readSum_42 m_X1_readTerm rfl (by decide) qm_X1_71 qi_X1_readTerm qe_X1_readTerm rfl (s_ifne (tgt := 50) dX1_readSum_45 (by decide) (s_aload_n dX1_readSum_50 rfl (s_iconst dX1_readSum_51 (s_iload dX1_readSum_52 (s_iadd dX1_readSum_54 (s_iconst dX1_readSum_55 (s_invB (w' := (g, d, ck, sk, xX1_readSum, Q)) (ci := 1) (ck := 0) (sk := 0) (T := TX1) (N := 5) dX1_readSum_56 m_X1_add rfl (by decide) qm_X1_51 qi_X1_add qe_X1_add rfl (s_iinc dX1_readSum_59 (by decide : 3 < 5) (s_goto (tgt := 13) dX1_readSum_62 (by decide) (sk_id))))))))) (s_iconst dX1_readSum_48 (s_zret dX1_readSum_49 rfl))))))))) (s_iconst dX1_readSum_33 (s_zret dX1_readSum_34 rfl))))))))))
theorem dX1_readTerm_0 : decode cX1_readTerm 0 = .ok (.aload_n 0, 1) := by decide +kernel
theorem dX1_readTerm_1 : decode cX1_readTerm 1 = .ok (.aload_n 1, 1) := by decide +kernel
theorem dX1_readTerm_2 : decode cX1_readTerm 2 = .ok (.iload_n 2, 1) := by decide +kernel
theorem dX1_readTerm_3 : decode cX1_readTerm 3 = .ok (.invokevirtual 76, 3) := by decide +kernel
theorem dX1_readTerm_6 : decode cX1_readTerm 6 = .ok (.ifCond .ne 5, 3) := by decide +kernel
theorem dX1_readTerm_9 : decode cX1_readTerm 9 = .ok (.iconst 0, 1) := by decide +kernel
theorem dX1_readTerm_10 : decode cX1_readTerm 10 = .ok (.ireturn, 1) := by decide +kernel
theorem dX1_readTerm_11 : decode cX1_readTerm 11 = .ok (.iconst 0, 1) := by decide +kernel
theorem dX1_readTerm_12 : decode cX1_readTerm 12 = .ok (.istore_n 3, 1) := by decide +kernel
theorem dX1_readTerm_13 : decode cX1_readTerm 13 = .ok (.iload_n 3, 1) := by decide +kernel
theorem dX1_readTerm_14 : decode cX1_readTerm 14 = .ok (.sipush 240, 3) := by decide +kernel
theorem dX1_readTerm_17 : decode cX1_readTerm 17 = .ok (.if_icmp .ge 48, 3) := by decide +kernel
theorem dX1_readTerm_20 : decode cX1_readTerm 20 = .ok (.aload_n 1, 1) := by decide +kernel
theorem dX1_readTerm_21 : decode cX1_readTerm 21 = .ok (.ldc 79, 2) := by decide +kernel
theorem dX1_readTerm_23 : decode cX1_readTerm 23 = .ok (.invokevirtual 41, 3) := by decide +kernel
theorem dX1_readTerm_26 : decode cX1_readTerm 26 = .ok (.istore 4, 2) := by decide +kernel
theorem dX1_readTerm_28 : decode cX1_readTerm 28 = .ok (.iload 4, 2) := by decide +kernel
theorem dX1_readTerm_30 : decode cX1_readTerm 30 = .ok (.ifCond .ge 5, 3) := by decide +kernel
theorem dX1_readTerm_33 : decode cX1_readTerm 33 = .ok (.iconst 1, 1) := by decide +kernel
theorem dX1_readTerm_34 : decode cX1_readTerm 34 = .ok (.ireturn, 1) := by decide +kernel
theorem dX1_readTerm_35 : decode cX1_readTerm 35 = .ok (.aload_n 1, 1) := by decide +kernel
theorem dX1_readTerm_36 : decode cX1_readTerm 36 = .ok (.invokevirtual 68, 3) := by decide +kernel
theorem dX1_readTerm_39 : decode cX1_readTerm 39 = .ok (.aload_n 0, 1) := by decide +kernel
theorem dX1_readTerm_40 : decode cX1_readTerm 40 = .ok (.aload_n 1, 1) := by decide +kernel
theorem dX1_readTerm_41 : decode cX1_readTerm 41 = .ok (.iload_n 2, 1) := by decide +kernel
theorem dX1_readTerm_42 : decode cX1_readTerm 42 = .ok (.invokevirtual 76, 3) := by decide +kernel
theorem dX1_readTerm_45 : decode cX1_readTerm 45 = .ok (.ifCond .ne 5, 3) := by decide +kernel
theorem dX1_readTerm_48 : decode cX1_readTerm 48 = .ok (.iconst 0, 1) := by decide +kernel
theorem dX1_readTerm_49 : decode cX1_readTerm 49 = .ok (.ireturn, 1) := by decide +kernel
theorem dX1_readTerm_50 : decode cX1_readTerm 50 = .ok (.aload_n 0, 1) := by decide +kernel
theorem dX1_readTerm_51 : decode cX1_readTerm 51 = .ok (.iconst 4, 1) := by decide +kernel
theorem dX1_readTerm_52 : decode cX1_readTerm 52 = .ok (.iload 4, 2) := by decide +kernel
theorem dX1_readTerm_54 : decode cX1_readTerm 54 = .ok (.iadd, 1) := by decide +kernel
theorem dX1_readTerm_55 : decode cX1_readTerm 55 = .ok (.iconst 0, 1) := by decide +kernel
theorem dX1_readTerm_56 : decode cX1_readTerm 56 = .ok (.invokevirtual 51, 3) := by decide +kernel
theorem dX1_readTerm_59 : decode cX1_readTerm 59 = .ok (.iinc 3 1, 3) := by decide +kernel
theorem dX1_readTerm_62 : decode cX1_readTerm 62 = .ok (.goto (-49), 3) := by decide +kernel
theorem dX1_readTerm_65 : decode cX1_readTerm 65 = .ok (.iconst 1, 1) := by decide +kernel
theorem dX1_readTerm_66 : decode cX1_readTerm 66 = .ok (.ireturn, 1) := by decide +kernel
def kX1_readTerm_0 (g : sk_G) (d ck sk : Nat) (Q : sk_P) : sk_K := o_aload 0 (o_aload 1 (o_iload 2 (o_invB (g, d, ck, sk, xX1_readTerm, Q) xX1_readAtom 2 1 0 0 (o_ifne (o_i (0) (o_istore 3 (sk_B (g, d, ck, sk, xX1_readTerm, Q) 13))) (o_i (0) (o_zret (g, d, ck, sk, xX1_readTerm, Q)))))))
theorem tX1_readTerm_0 {g : sk_G} {d ck sk : Nat} {Q : sk_P} : sk_S (g, d, ck, sk, xX1_readTerm, Q) 0 (kX1_readTerm_0 g d ck sk Q) := s_aload_n dX1_readTerm_0 rfl (s_aload_n dX1_readTerm_1 rfl (s_iload_n dX1_readTerm_2 rfl (s_invB (w' := (g, d, ck, sk, xX1_readTerm, Q)) (ci := 1) (ck := 0) (sk := 0) (T := TX1) (N := 5) dX1_readTerm_3 m_X1_readAtom rfl (by decide) qm_X1_76 qi_X1_readAtom qe_X1_readAtom rfl (s_ifne (tgt := 11) dX1_readTerm_6 (by decide) (s_iconst dX1_readTerm_11 (s_istore_n dX1_readTerm_12 rfl (by decide : 3 < 5) (sk_id))) (s_iconst dX1_readTerm_9 (s_zret dX1_readTerm_10 rfl))))))
set_option maxRecDepth 20000 in
def kX1_readTerm_13 (g : sk_G) (d ck sk : Nat) (Q : sk_P) : sk_K := o_iload 3 (o_i (240) (o_icge (o_i (1) (o_zret (g, d, ck, sk, xX1_readTerm, Q))) (o_aload 1 (o_lds (g, d, ck, sk, xX1_readTerm, Q) 4 (o_invB (g, d, ck, sk, xX1_readTerm, Q) xX9_peekAmong 1 9 0 0 (o_istore 4 (o_iload 4 (o_ifge (o_aload 1 (o_invT (g, d, ck, sk, xX1_readTerm, Q) 1 0 9 (fun Q => kX9_step_0 g (d - 1) 0 0 Q) (o_aload 0 (o_aload 1 (o_iload 2 (o_invB (g, d, ck, sk, xX1_readTerm, Q) xX1_readAtom 2 1 0 0 (o_ifne (o_aload 0 (o_i (4) (o_iload 4 (o_iadd (o_i (0) (o_invB (g, d, ck, sk, xX1_readTerm, Q) xX1_add 2 1 0 0 (o_iinc 3 (1) (sk_B (g, d, ck, sk, xX1_readTerm, Q) 13)))))))) (o_i (0) (o_zret (g, d, ck, sk, xX1_readTerm, Q)))))))))) (o_i (1) (o_zret (g, d, ck, sk, xX1_readTerm, Q)))))))))))
set_option maxRecDepth 20000 in
theorem tX1_readTerm_13 {g : sk_G} {d ck sk : Nat} {Q : sk_P} : sk_S (g, d, ck, sk, xX1_readTerm, Q) 13 (kX1_readTerm_13 g d ck sk Q) := s_iload_n dX1_readTerm_13 rfl (s_sipush dX1_readTerm_14 rfl (s_icge (tgt := 65) dX1_readTerm_17 (by decide) (s_iconst dX1_readTerm_65 (s_zret dX1_readTerm_66 rfl)) (s_aload_n dX1_readTerm_20 rfl (s_lds dX1_readTerm_21 (i := 4) (by decide) rfl rfl (s_invB (w' := (g, d, ck, sk, xX1_readTerm, Q)) (ci := 9) (ck := 0) (sk := 0) (T := TX9) (N := 3) dX1_readTerm_23 m_X9_peekAmong rfl (by decide) qm_X1_41 qi_X9_peekAmong qe_X9_peekAmong rfl (s_istore dX1_readTerm_26 (by decide : 4 < 5) (s_iload dX1_readTerm_28 (s_ifge (tgt := 35) dX1_readTerm_30 (by decide) (s_aload_n dX1_readTerm_35 rfl (s_invT (X := xX9_step) (ci := 9) (T := TX9) (N := 3) (K := (fun Q => kX9_step_0 g (d - 1) 0 0 Q)) (fun _ => tX9_step_0) rfl dX1_readTerm_36 m_X9_step rfl (by decide) qm_X1_68 qi_X9_step qe_X9_step (s_aload_n dX1_readTerm_39 rfl (s_aload_n dX1_readTerm_40 rfl (s_iload_n dX1_readTerm_41 rfl (s_invB (w' := (g, d, ck, sk, xX1_readTerm, Q)) (ci := 1) (ck := 0) (sk := 0) (T := TX1) (N := 5) dX1_readTerm_42 m_X1_readAtom rfl (by decide) qm_X1_76 qi_X1_readAtom qe_X1_readAtom rfl (s_ifne (tgt := 50) dX1_readTerm_45 (by decide) (s_aload_n dX1_readTerm_50 rfl (s_iconst dX1_readTerm_51 (s_iload dX1_readTerm_52 (s_iadd dX1_readTerm_54 (s_iconst dX1_readTerm_55 (s_invB (w' := (g, d, ck, sk, xX1_readTerm, Q)) (ci := 1) (ck := 0) (sk := 0) (T := TX1) (N := 5) dX1_readTerm_56 m_X1_add rfl (by decide) qm_X1_51 qi_X1_add qe_X1_add rfl (s_iinc dX1_readTerm_59 (by decide : 3 < 5) (s_goto (tgt := 13) dX1_readTerm_62 (by decide) (sk_id))))))))) (s_iconst dX1_readTerm_48 (s_zret dX1_readTerm_49 rfl))))))))) (s_iconst dX1_readTerm_33 (s_zret dX1_readTerm_34 rfl))))))))))
theorem dX1_readAtom_0 : decode cX1_readAtom 0 = .ok (.aload_n 1, 1) := by decide +kernel
theorem dX1_readAtom_1 : decode cX1_readAtom 1 = .ok (.invokevirtual 81, 3) := by decide +kernel
theorem dX1_readAtom_4 : decode cX1_readAtom 4 = .ok (.ifCond .eq 26, 3) := by decide +kernel
theorem dX1_readAtom_7 : decode cX1_readAtom 7 = .ok (.aload_n 1, 1) := by decide +kernel
theorem dX1_readAtom_8 : decode cX1_readAtom 8 = .ok (.iconst 4, 1) := by decide +kernel
theorem dX1_readAtom_9 : decode cX1_readAtom 9 = .ok (.invokevirtual 85, 3) := by decide +kernel
theorem dX1_readAtom_12 : decode cX1_readAtom 12 = .ok (.istore_n 3, 1) := by decide +kernel
theorem dX1_readAtom_13 : decode cX1_readAtom 13 = .ok (.aload_n 0, 1) := by decide +kernel
theorem dX1_readAtom_14 : decode cX1_readAtom 14 = .ok (.iconst 0, 1) := by decide +kernel
theorem dX1_readAtom_15 : decode cX1_readAtom 15 = .ok (.iload_n 3, 1) := by decide +kernel
theorem dX1_readAtom_16 : decode cX1_readAtom 16 = .ok (.invokevirtual 51, 3) := by decide +kernel
theorem dX1_readAtom_19 : decode cX1_readAtom 19 = .ok (.iload_n 3, 1) := by decide +kernel
theorem dX1_readAtom_20 : decode cX1_readAtom 20 = .ok (.iconst (-1), 1) := by decide +kernel
theorem dX1_readAtom_21 : decode cX1_readAtom 21 = .ok (.if_icmp .eq 7, 3) := by decide +kernel
theorem dX1_readAtom_24 : decode cX1_readAtom 24 = .ok (.iconst 1, 1) := by decide +kernel
theorem dX1_readAtom_25 : decode cX1_readAtom 25 = .ok (.goto 4, 3) := by decide +kernel
theorem dX1_readAtom_28 : decode cX1_readAtom 28 = .ok (.iconst 0, 1) := by decide +kernel
theorem dX1_readAtom_29 : decode cX1_readAtom 29 = .ok (.ireturn, 1) := by decide +kernel
theorem dX1_readAtom_30 : decode cX1_readAtom 30 = .ok (.aload_n 1, 1) := by decide +kernel
theorem dX1_readAtom_31 : decode cX1_readAtom 31 = .ok (.ldc 89, 2) := by decide +kernel
theorem dX1_readAtom_33 : decode cX1_readAtom 33 = .ok (.invokevirtual 41, 3) := by decide +kernel
theorem dX1_readAtom_36 : decode cX1_readAtom 36 = .ok (.istore_n 3, 1) := by decide +kernel
theorem dX1_readAtom_37 : decode cX1_readAtom 37 = .ok (.iload_n 3, 1) := by decide +kernel
theorem dX1_readAtom_38 : decode cX1_readAtom 38 = .ok (.ifCond .lt 15, 3) := by decide +kernel
theorem dX1_readAtom_41 : decode cX1_readAtom 41 = .ok (.aload_n 1, 1) := by decide +kernel
theorem dX1_readAtom_42 : decode cX1_readAtom 42 = .ok (.invokevirtual 68, 3) := by decide +kernel
theorem dX1_readAtom_45 : decode cX1_readAtom 45 = .ok (.aload_n 0, 1) := by decide +kernel
theorem dX1_readAtom_46 : decode cX1_readAtom 46 = .ok (.iconst 1, 1) := by decide +kernel
theorem dX1_readAtom_47 : decode cX1_readAtom 47 = .ok (.iload_n 3, 1) := by decide +kernel
theorem dX1_readAtom_48 : decode cX1_readAtom 48 = .ok (.invokevirtual 51, 3) := by decide +kernel
theorem dX1_readAtom_51 : decode cX1_readAtom 51 = .ok (.iconst 1, 1) := by decide +kernel
theorem dX1_readAtom_52 : decode cX1_readAtom 52 = .ok (.ireturn, 1) := by decide +kernel
theorem dX1_readAtom_53 : decode cX1_readAtom 53 = .ok (.iload_n 2, 1) := by decide +kernel
theorem dX1_readAtom_54 : decode cX1_readAtom 54 = .ok (.bipush 6, 2) := by decide +kernel
theorem dX1_readAtom_56 : decode cX1_readAtom 56 = .ok (.if_icmp .ge 12, 3) := by decide +kernel
theorem dX1_readAtom_59 : decode cX1_readAtom 59 = .ok (.aload_n 1, 1) := by decide +kernel
theorem dX1_readAtom_60 : decode cX1_readAtom 60 = .ok (.bipush 91, 2) := by decide +kernel
theorem dX1_readAtom_62 : decode cX1_readAtom 62 = .ok (.invokevirtual 35, 3) := by decide +kernel
theorem dX1_readAtom_65 : decode cX1_readAtom 65 = .ok (.ifCond .ne 5, 3) := by decide +kernel
theorem dX1_readAtom_68 : decode cX1_readAtom 68 = .ok (.iconst 0, 1) := by decide +kernel
theorem dX1_readAtom_69 : decode cX1_readAtom 69 = .ok (.ireturn, 1) := by decide +kernel
theorem dX1_readAtom_70 : decode cX1_readAtom 70 = .ok (.aload_n 0, 1) := by decide +kernel
theorem dX1_readAtom_71 : decode cX1_readAtom 71 = .ok (.aload_n 1, 1) := by decide +kernel
theorem dX1_readAtom_72 : decode cX1_readAtom 72 = .ok (.iload_n 2, 1) := by decide +kernel
theorem dX1_readAtom_73 : decode cX1_readAtom 73 = .ok (.iconst 1, 1) := by decide +kernel
theorem dX1_readAtom_74 : decode cX1_readAtom 74 = .ok (.iadd, 1) := by decide +kernel
theorem dX1_readAtom_75 : decode cX1_readAtom 75 = .ok (.invokevirtual 45, 3) := by decide +kernel
theorem dX1_readAtom_78 : decode cX1_readAtom 78 = .ok (.ifCond .eq 16, 3) := by decide +kernel
theorem dX1_readAtom_81 : decode cX1_readAtom 81 = .ok (.aload_n 1, 1) := by decide +kernel
theorem dX1_readAtom_82 : decode cX1_readAtom 82 = .ok (.bipush 93, 2) := by decide +kernel
theorem dX1_readAtom_84 : decode cX1_readAtom 84 = .ok (.invokevirtual 35, 3) := by decide +kernel
theorem dX1_readAtom_87 : decode cX1_readAtom 87 = .ok (.ifCond .eq 7, 3) := by decide +kernel
theorem dX1_readAtom_90 : decode cX1_readAtom 90 = .ok (.iconst 1, 1) := by decide +kernel
theorem dX1_readAtom_91 : decode cX1_readAtom 91 = .ok (.goto 4, 3) := by decide +kernel
theorem dX1_readAtom_94 : decode cX1_readAtom 94 = .ok (.iconst 0, 1) := by decide +kernel
theorem dX1_readAtom_95 : decode cX1_readAtom 95 = .ok (.ireturn, 1) := by decide +kernel
set_option maxRecDepth 20000 in
def kX1_readAtom_0 (g : sk_G) (d ck sk : Nat) (Q : sk_P) : sk_K := o_aload 1 (o_invB (g, d, ck, sk, xX1_readAtom, Q) xX9_peeksDigit 0 9 0 0 (o_ifeq (o_aload 1 (o_lds (g, d, ck, sk, xX1_readAtom, Q) 3 (o_invB (g, d, ck, sk, xX1_readAtom, Q) xX9_peekAmong 1 9 0 0 (o_istore 3 (o_iload 3 (o_iflt (o_iload 2 (o_i (6) (o_icge (o_i (0) (o_zret (g, d, ck, sk, xX1_readAtom, Q))) (o_aload 1 (o_i (91) (o_invB (g, d, ck, sk, xX1_readAtom, Q) xX9_eats 1 9 0 0 (o_ifne (o_aload 0 (o_aload 1 (o_iload 2 (o_i (1) (o_iadd (o_invB (g, d, ck, sk, xX1_readAtom, Q) xX1_readSum 2 1 0 0 (o_ifeq (o_i (0) (o_zret (g, d, ck, sk, xX1_readAtom, Q))) (o_aload 1 (o_i (93) (o_invB (g, d, ck, sk, xX1_readAtom, Q) xX9_eats 1 9 0 0 (o_ifeq (o_i (0) (o_zret (g, d, ck, sk, xX1_readAtom, Q))) (o_i (1) (o_zret (g, d, ck, sk, xX1_readAtom, Q)))))))))))))) (o_i (0) (o_zret (g, d, ck, sk, xX1_readAtom, Q)))))))))) (o_aload 1 (o_invT (g, d, ck, sk, xX1_readAtom, Q) 1 0 9 (fun Q => kX9_step_0 g (d - 1) 0 0 Q) (o_aload 0 (o_i (1) (o_iload 3 (o_invB (g, d, ck, sk, xX1_readAtom, Q) xX1_add 2 1 0 0 (o_i (1) (o_zret (g, d, ck, sk, xX1_readAtom, Q))))))))))))))) (o_aload 1 (o_i (4) (o_invB (g, d, ck, sk, xX1_readAtom, Q) xX9_number 1 9 0 0 (o_istore 3 (o_aload 0 (o_i (0) (o_iload 3 (o_invB (g, d, ck, sk, xX1_readAtom, Q) xX1_add 2 1 0 0 (o_iload 3 (o_i (-1) (o_iceq (o_i (0) (o_zret (g, d, ck, sk, xX1_readAtom, Q))) (o_i (1) (o_zret (g, d, ck, sk, xX1_readAtom, Q))))))))))))))))
set_option maxRecDepth 20000 in
theorem tX1_readAtom_0 {g : sk_G} {d ck sk : Nat} {Q : sk_P} : sk_S (g, d, ck, sk, xX1_readAtom, Q) 0 (kX1_readAtom_0 g d ck sk Q) := s_aload_n dX1_readAtom_0 rfl (s_invB (w' := (g, d, ck, sk, xX1_readAtom, Q)) (ci := 9) (ck := 0) (sk := 0) (T := TX9) (N := 3) dX1_readAtom_1 m_X9_peeksDigit rfl (by decide) qm_X1_81 qi_X9_peeksDigit qe_X9_peeksDigit rfl (s_ifeq (tgt := 30) dX1_readAtom_4 (by decide) (s_aload_n dX1_readAtom_30 rfl (s_lds dX1_readAtom_31 (i := 3) (by decide) rfl rfl (s_invB (w' := (g, d, ck, sk, xX1_readAtom, Q)) (ci := 9) (ck := 0) (sk := 0) (T := TX9) (N := 3) dX1_readAtom_33 m_X9_peekAmong rfl (by decide) qm_X1_41 qi_X9_peekAmong qe_X9_peekAmong rfl (s_istore_n dX1_readAtom_36 rfl (by decide : 3 < 4) (s_iload_n dX1_readAtom_37 rfl (s_iflt (tgt := 53) dX1_readAtom_38 (by decide) (s_iload_n dX1_readAtom_53 rfl (s_bipush dX1_readAtom_54 rfl (s_icge (tgt := 68) dX1_readAtom_56 (by decide) (s_iconst dX1_readAtom_68 (s_zret dX1_readAtom_69 rfl)) (s_aload_n dX1_readAtom_59 rfl (s_bipush dX1_readAtom_60 rfl (s_invB (w' := (g, d, ck, sk, xX1_readAtom, Q)) (ci := 9) (ck := 0) (sk := 0) (T := TX9) (N := 3) dX1_readAtom_62 m_X9_eats rfl (by decide) qm_X1_35 qi_X9_eats qe_X9_eats rfl (s_ifne (tgt := 70) dX1_readAtom_65 (by decide) (s_aload_n dX1_readAtom_70 rfl (s_aload_n dX1_readAtom_71 rfl (s_iload_n dX1_readAtom_72 rfl (s_iconst dX1_readAtom_73 (s_iadd dX1_readAtom_74 (s_invB (w' := (g, d, ck, sk, xX1_readAtom, Q)) (ci := 1) (ck := 0) (sk := 0) (T := TX1) (N := 5) dX1_readAtom_75 m_X1_readSum rfl (by decide) qm_X1_45 qi_X1_readSum qe_X1_readSum rfl (s_ifeq (tgt := 94) dX1_readAtom_78 (by decide) (s_iconst dX1_readAtom_94 (s_zret dX1_readAtom_95 rfl)) (s_aload_n dX1_readAtom_81 rfl (s_bipush dX1_readAtom_82 rfl (s_invB (w' := (g, d, ck, sk, xX1_readAtom, Q)) (ci := 9) (ck := 0) (sk := 0) (T := TX9) (N := 3) dX1_readAtom_84 m_X9_eats rfl (by decide) qm_X1_35 qi_X9_eats qe_X9_eats rfl (s_ifeq (tgt := 94) dX1_readAtom_87 (by decide) (s_iconst dX1_readAtom_94 (s_zret dX1_readAtom_95 rfl)) (s_iconst dX1_readAtom_90 (s_goto (tgt := 95) dX1_readAtom_91 (by decide) (s_zret dX1_readAtom_95 rfl)))))))))))))) (s_iconst dX1_readAtom_68 (s_zret dX1_readAtom_69 rfl))))))))) (s_aload_n dX1_readAtom_41 rfl (s_invT (X := xX9_step) (ci := 9) (T := TX9) (N := 3) (K := (fun Q => kX9_step_0 g (d - 1) 0 0 Q)) (fun _ => tX9_step_0) rfl dX1_readAtom_42 m_X9_step rfl (by decide) qm_X1_68 qi_X9_step qe_X9_step (s_aload_n dX1_readAtom_45 rfl (s_iconst dX1_readAtom_46 (s_iload_n dX1_readAtom_47 rfl (s_invB (w' := (g, d, ck, sk, xX1_readAtom, Q)) (ci := 1) (ck := 0) (sk := 0) (T := TX1) (N := 5) dX1_readAtom_48 m_X1_add rfl (by decide) qm_X1_51 qi_X1_add qe_X1_add rfl (s_iconst dX1_readAtom_51 (s_zret dX1_readAtom_52 rfl)))))))))))))) (s_aload_n dX1_readAtom_7 rfl (s_iconst dX1_readAtom_8 (s_invB (w' := (g, d, ck, sk, xX1_readAtom, Q)) (ci := 9) (ck := 0) (sk := 0) (T := TX9) (N := 3) dX1_readAtom_9 m_X9_number rfl (by decide) qm_X1_85 qi_X9_number qe_X9_number rfl (s_istore_n dX1_readAtom_12 rfl (by decide : 3 < 4) (s_aload_n dX1_readAtom_13 rfl (s_iconst dX1_readAtom_14 (s_iload_n dX1_readAtom_15 rfl (s_invB (w' := (g, d, ck, sk, xX1_readAtom, Q)) (ci := 1) (ck := 0) (sk := 0) (T := TX1) (N := 5) dX1_readAtom_16 m_X1_add rfl (by decide) qm_X1_51 qi_X1_add qe_X1_add rfl (s_iload_n dX1_readAtom_19 rfl (s_iconst dX1_readAtom_20 (s_iceq (tgt := 28) dX1_readAtom_21 (by decide) (s_iconst dX1_readAtom_28 (s_zret dX1_readAtom_29 rfl)) (s_iconst dX1_readAtom_24 (s_goto (tgt := 29) dX1_readAtom_25 (by decide) (s_zret dX1_readAtom_29 rfl))))))))))))))))
theorem dX1_add_0 : decode cX1_add 0 = .ok (.aload_n 0, 1) := by decide +kernel
theorem dX1_add_1 : decode cX1_add 1 = .ok (.getfield 23, 3) := by decide +kernel
theorem dX1_add_4 : decode cX1_add 4 = .ok (.aload_n 0, 1) := by decide +kernel
theorem dX1_add_5 : decode cX1_add 5 = .ok (.getfield 11, 3) := by decide +kernel
theorem dX1_add_8 : decode cX1_add 8 = .ok (.arraylength, 1) := by decide +kernel
theorem dX1_add_9 : decode cX1_add 9 = .ok (.if_icmp .ge 27, 3) := by decide +kernel
theorem dX1_add_12 : decode cX1_add 12 = .ok (.aload_n 0, 1) := by decide +kernel
theorem dX1_add_13 : decode cX1_add 13 = .ok (.getfield 11, 3) := by decide +kernel
theorem dX1_add_16 : decode cX1_add 16 = .ok (.aload_n 0, 1) := by decide +kernel
theorem dX1_add_17 : decode cX1_add 17 = .ok (.getfield 23, 3) := by decide +kernel
theorem dX1_add_20 : decode cX1_add 20 = .ok (.iload_n 1, 1) := by decide +kernel
theorem dX1_add_21 : decode cX1_add 21 = .ok (.iload_n 2, 1) := by decide +kernel
theorem dX1_add_22 : decode cX1_add 22 = .ok (.iconst 4, 1) := by decide +kernel
theorem dX1_add_23 : decode cX1_add 23 = .ok (.ishl, 1) := by decide +kernel
theorem dX1_add_24 : decode cX1_add 24 = .ok (.ior, 1) := by decide +kernel
theorem dX1_add_25 : decode cX1_add 25 = .ok (.iastore, 1) := by decide +kernel
theorem dX1_add_26 : decode cX1_add 26 = .ok (.aload_n 0, 1) := by decide +kernel
theorem dX1_add_27 : decode cX1_add 27 = .ok (.dup, 1) := by decide +kernel
theorem dX1_add_28 : decode cX1_add 28 = .ok (.getfield 23, 3) := by decide +kernel
theorem dX1_add_31 : decode cX1_add 31 = .ok (.iconst 1, 1) := by decide +kernel
theorem dX1_add_32 : decode cX1_add 32 = .ok (.iadd, 1) := by decide +kernel
theorem dX1_add_33 : decode cX1_add 33 = .ok (.putfield 23, 3) := by decide +kernel
theorem dX1_add_36 : decode cX1_add 36 = .ok (.return_, 1) := by decide +kernel
set_option maxRecDepth 20000 in
def kX1_add_0 (g : sk_G) (d ck sk : Nat) (Q : sk_P) : sk_K := o_aload 0 (o_getf 1 1 (o_aload 0 (o_getf 1 0 (o_alen (o_icge (o_ret (g, d, ck, sk, xX1_add, Q)) (o_aload 0 (o_getf 1 0 (o_aload 0 (o_getf 1 1 (o_iload 1 (o_iload 2 (o_i (4) (o_ishl (o_ior (o_iastore (o_aload 0 (o_dup (o_getf 1 1 (o_i (1) (o_iadd (o_puti 1 1 (o_ret (g, d, ck, sk, xX1_add, Q)))))))))))))))))))))))
set_option maxRecDepth 20000 in
theorem tX1_add_0 {g : sk_G} {d ck sk : Nat} {Q : sk_P} : sk_S (g, d, ck, sk, xX1_add, Q) 0 (kX1_add_0 g d ck sk Q) := s_aload_n dX1_add_0 rfl (s_getf (ci := 1) (j := 1) (C := RX1) (T := TX1) (N := 5) dX1_add_1 rfl (by decide) (by decide) qf_X1_23 (s_aload_n dX1_add_4 rfl (s_getf (ci := 1) (j := 0) (C := RX1) (T := TX1) (N := 5) dX1_add_5 rfl (by decide) (by decide) qf_X1_11 (s_alen dX1_add_8 (s_icge (tgt := 36) dX1_add_9 (by decide) (s_ret dX1_add_36 rfl) (s_aload_n dX1_add_12 rfl (s_getf (ci := 1) (j := 0) (C := RX1) (T := TX1) (N := 5) dX1_add_13 rfl (by decide) (by decide) qf_X1_11 (s_aload_n dX1_add_16 rfl (s_getf (ci := 1) (j := 1) (C := RX1) (T := TX1) (N := 5) dX1_add_17 rfl (by decide) (by decide) qf_X1_23 (s_iload_n dX1_add_20 rfl (s_iload_n dX1_add_21 rfl (s_iconst dX1_add_22 (s_ishl dX1_add_23 (s_ior dX1_add_24 (s_iastore dX1_add_25 (s_aload_n dX1_add_26 rfl (s_dup dX1_add_27 (s_getf (ci := 1) (j := 1) (C := RX1) (T := TX1) (N := 5) dX1_add_28 rfl (by decide) (by decide) qf_X1_23 (s_iconst dX1_add_31 (s_iadd dX1_add_32 (s_puti (ci := 1) (j := 1) (C := RX1) (T := TX1) (N := 5) dX1_add_33 rfl (by decide) (by decide) rfl (tyX1_ok 1 (by decide)) qf_X1_23 (s_ret dX1_add_36 rfl))))))))))))))))))))))
theorem dX1_readCondition_0 : decode cX1_readCondition 0 = .ok (.aload_n 0, 1) := by decide +kernel
theorem dX1_readCondition_1 : decode cX1_readCondition 1 = .ok (.aload_n 1, 1) := by decide +kernel
theorem dX1_readCondition_2 : decode cX1_readCondition 2 = .ok (.iload_n 2, 1) := by decide +kernel
theorem dX1_readCondition_3 : decode cX1_readCondition 3 = .ok (.iload_n 3, 1) := by decide +kernel
theorem dX1_readCondition_4 : decode cX1_readCondition 4 = .ok (.invokevirtual 59, 3) := by decide +kernel
theorem dX1_readCondition_7 : decode cX1_readCondition 7 = .ok (.ifCond .ne 5, 3) := by decide +kernel
theorem dX1_readCondition_10 : decode cX1_readCondition 10 = .ok (.iconst 0, 1) := by decide +kernel
theorem dX1_readCondition_11 : decode cX1_readCondition 11 = .ok (.ireturn, 1) := by decide +kernel
theorem dX1_readCondition_12 : decode cX1_readCondition 12 = .ok (.iconst 0, 1) := by decide +kernel
theorem dX1_readCondition_13 : decode cX1_readCondition 13 = .ok (.istore 4, 2) := by decide +kernel
theorem dX1_readCondition_15 : decode cX1_readCondition 15 = .ok (.iload 4, 2) := by decide +kernel
theorem dX1_readCondition_17 : decode cX1_readCondition 17 = .ok (.sipush 240, 3) := by decide +kernel
theorem dX1_readCondition_20 : decode cX1_readCondition 20 = .ok (.if_icmp .ge 37, 3) := by decide +kernel
theorem dX1_readCondition_23 : decode cX1_readCondition 23 = .ok (.aload_n 1, 1) := by decide +kernel
theorem dX1_readCondition_24 : decode cX1_readCondition 24 = .ok (.bipush 124, 2) := by decide +kernel
theorem dX1_readCondition_26 : decode cX1_readCondition 26 = .ok (.invokevirtual 35, 3) := by decide +kernel
theorem dX1_readCondition_29 : decode cX1_readCondition 29 = .ok (.ifCond .eq 28, 3) := by decide +kernel
theorem dX1_readCondition_32 : decode cX1_readCondition 32 = .ok (.aload_n 0, 1) := by decide +kernel
theorem dX1_readCondition_33 : decode cX1_readCondition 33 = .ok (.aload_n 1, 1) := by decide +kernel
theorem dX1_readCondition_34 : decode cX1_readCondition 34 = .ok (.iload_n 2, 1) := by decide +kernel
theorem dX1_readCondition_35 : decode cX1_readCondition 35 = .ok (.iconst 0, 1) := by decide +kernel
theorem dX1_readCondition_36 : decode cX1_readCondition 36 = .ok (.invokevirtual 59, 3) := by decide +kernel
theorem dX1_readCondition_39 : decode cX1_readCondition 39 = .ok (.ifCond .ne 5, 3) := by decide +kernel
theorem dX1_readCondition_42 : decode cX1_readCondition 42 = .ok (.iconst 0, 1) := by decide +kernel
theorem dX1_readCondition_43 : decode cX1_readCondition 43 = .ok (.ireturn, 1) := by decide +kernel
theorem dX1_readCondition_44 : decode cX1_readCondition 44 = .ok (.aload_n 0, 1) := by decide +kernel
theorem dX1_readCondition_45 : decode cX1_readCondition 45 = .ok (.bipush 11, 2) := by decide +kernel
theorem dX1_readCondition_47 : decode cX1_readCondition 47 = .ok (.iconst 0, 1) := by decide +kernel
theorem dX1_readCondition_48 : decode cX1_readCondition 48 = .ok (.invokevirtual 51, 3) := by decide +kernel
theorem dX1_readCondition_51 : decode cX1_readCondition 51 = .ok (.iinc 4 1, 3) := by decide +kernel
theorem dX1_readCondition_54 : decode cX1_readCondition 54 = .ok (.goto (-39), 3) := by decide +kernel
theorem dX1_readCondition_57 : decode cX1_readCondition 57 = .ok (.iconst 1, 1) := by decide +kernel
theorem dX1_readCondition_58 : decode cX1_readCondition 58 = .ok (.ireturn, 1) := by decide +kernel
def kX1_readCondition_0 (g : sk_G) (d ck sk : Nat) (Q : sk_P) : sk_K := o_aload 0 (o_aload 1 (o_iload 2 (o_iload 3 (o_invB (g, d, ck, sk, xX1_readCondition, Q) xX1_readTruth 3 1 0 0 (o_ifne (o_i (0) (o_istore 4 (sk_B (g, d, ck, sk, xX1_readCondition, Q) 15))) (o_i (0) (o_zret (g, d, ck, sk, xX1_readCondition, Q))))))))
theorem tX1_readCondition_0 {g : sk_G} {d ck sk : Nat} {Q : sk_P} : sk_S (g, d, ck, sk, xX1_readCondition, Q) 0 (kX1_readCondition_0 g d ck sk Q) := s_aload_n dX1_readCondition_0 rfl (s_aload_n dX1_readCondition_1 rfl (s_iload_n dX1_readCondition_2 rfl (s_iload_n dX1_readCondition_3 rfl (s_invB (w' := (g, d, ck, sk, xX1_readCondition, Q)) (ci := 1) (ck := 0) (sk := 0) (T := TX1) (N := 5) dX1_readCondition_4 m_X1_readTruth rfl (by decide) qm_X1_59 qi_X1_readTruth qe_X1_readTruth rfl (s_ifne (tgt := 12) dX1_readCondition_7 (by decide) (s_iconst dX1_readCondition_12 (s_istore dX1_readCondition_13 (by decide : 4 < 5) (sk_id))) (s_iconst dX1_readCondition_10 (s_zret dX1_readCondition_11 rfl)))))))
set_option maxRecDepth 20000 in
def kX1_readCondition_15 (g : sk_G) (d ck sk : Nat) (Q : sk_P) : sk_K := o_iload 4 (o_i (240) (o_icge (o_i (1) (o_zret (g, d, ck, sk, xX1_readCondition, Q))) (o_aload 1 (o_i (124) (o_invB (g, d, ck, sk, xX1_readCondition, Q) xX9_eats 1 9 0 0 (o_ifeq (o_i (1) (o_zret (g, d, ck, sk, xX1_readCondition, Q))) (o_aload 0 (o_aload 1 (o_iload 2 (o_i (0) (o_invB (g, d, ck, sk, xX1_readCondition, Q) xX1_readTruth 3 1 0 0 (o_ifne (o_aload 0 (o_i (11) (o_i (0) (o_invB (g, d, ck, sk, xX1_readCondition, Q) xX1_add 2 1 0 0 (o_iinc 4 (1) (sk_B (g, d, ck, sk, xX1_readCondition, Q) 15)))))) (o_i (0) (o_zret (g, d, ck, sk, xX1_readCondition, Q)))))))))))))))
set_option maxRecDepth 20000 in
theorem tX1_readCondition_15 {g : sk_G} {d ck sk : Nat} {Q : sk_P} : sk_S (g, d, ck, sk, xX1_readCondition, Q) 15 (kX1_readCondition_15 g d ck sk Q) := s_iload dX1_readCondition_15 (s_sipush dX1_readCondition_17 rfl (s_icge (tgt := 57) dX1_readCondition_20 (by decide) (s_iconst dX1_readCondition_57 (s_zret dX1_readCondition_58 rfl)) (s_aload_n dX1_readCondition_23 rfl (s_bipush dX1_readCondition_24 rfl (s_invB (w' := (g, d, ck, sk, xX1_readCondition, Q)) (ci := 9) (ck := 0) (sk := 0) (T := TX9) (N := 3) dX1_readCondition_26 m_X9_eats rfl (by decide) qm_X1_35 qi_X9_eats qe_X9_eats rfl (s_ifeq (tgt := 57) dX1_readCondition_29 (by decide) (s_iconst dX1_readCondition_57 (s_zret dX1_readCondition_58 rfl)) (s_aload_n dX1_readCondition_32 rfl (s_aload_n dX1_readCondition_33 rfl (s_iload_n dX1_readCondition_34 rfl (s_iconst dX1_readCondition_35 (s_invB (w' := (g, d, ck, sk, xX1_readCondition, Q)) (ci := 1) (ck := 0) (sk := 0) (T := TX1) (N := 5) dX1_readCondition_36 m_X1_readTruth rfl (by decide) qm_X1_59 qi_X1_readTruth qe_X1_readTruth rfl (s_ifne (tgt := 44) dX1_readCondition_39 (by decide) (s_aload_n dX1_readCondition_44 rfl (s_bipush dX1_readCondition_45 rfl (s_iconst dX1_readCondition_47 (s_invB (w' := (g, d, ck, sk, xX1_readCondition, Q)) (ci := 1) (ck := 0) (sk := 0) (T := TX1) (N := 5) dX1_readCondition_48 m_X1_add rfl (by decide) qm_X1_51 qi_X1_add qe_X1_add rfl (s_iinc dX1_readCondition_51 (by decide : 4 < 5) (s_goto (tgt := 15) dX1_readCondition_54 (by decide) (sk_id))))))) (s_iconst dX1_readCondition_42 (s_zret dX1_readCondition_43 rfl))))))))))))))
theorem dX1_readTruth_0 : decode cX1_readTruth 0 = .ok (.aload_n 0, 1) := by decide +kernel
theorem dX1_readTruth_1 : decode cX1_readTruth 1 = .ok (.aload_n 1, 1) := by decide +kernel
theorem dX1_readTruth_2 : decode cX1_readTruth 2 = .ok (.iload_n 2, 1) := by decide +kernel
theorem dX1_readTruth_3 : decode cX1_readTruth 3 = .ok (.iload_n 3, 1) := by decide +kernel
theorem dX1_readTruth_4 : decode cX1_readTruth 4 = .ok (.invokevirtual 62, 3) := by decide +kernel
theorem dX1_readTruth_7 : decode cX1_readTruth 7 = .ok (.ifCond .ne 5, 3) := by decide +kernel
theorem dX1_readTruth_10 : decode cX1_readTruth 10 = .ok (.iconst 0, 1) := by decide +kernel
theorem dX1_readTruth_11 : decode cX1_readTruth 11 = .ok (.ireturn, 1) := by decide +kernel
theorem dX1_readTruth_12 : decode cX1_readTruth 12 = .ok (.iconst 0, 1) := by decide +kernel
theorem dX1_readTruth_13 : decode cX1_readTruth 13 = .ok (.istore 4, 2) := by decide +kernel
theorem dX1_readTruth_15 : decode cX1_readTruth 15 = .ok (.iload 4, 2) := by decide +kernel
theorem dX1_readTruth_17 : decode cX1_readTruth 17 = .ok (.sipush 240, 3) := by decide +kernel
theorem dX1_readTruth_20 : decode cX1_readTruth 20 = .ok (.if_icmp .ge 37, 3) := by decide +kernel
theorem dX1_readTruth_23 : decode cX1_readTruth 23 = .ok (.aload_n 1, 1) := by decide +kernel
theorem dX1_readTruth_24 : decode cX1_readTruth 24 = .ok (.bipush 38, 2) := by decide +kernel
theorem dX1_readTruth_26 : decode cX1_readTruth 26 = .ok (.invokevirtual 35, 3) := by decide +kernel
theorem dX1_readTruth_29 : decode cX1_readTruth 29 = .ok (.ifCond .eq 28, 3) := by decide +kernel
theorem dX1_readTruth_32 : decode cX1_readTruth 32 = .ok (.aload_n 0, 1) := by decide +kernel
theorem dX1_readTruth_33 : decode cX1_readTruth 33 = .ok (.aload_n 1, 1) := by decide +kernel
theorem dX1_readTruth_34 : decode cX1_readTruth 34 = .ok (.iload_n 2, 1) := by decide +kernel
theorem dX1_readTruth_35 : decode cX1_readTruth 35 = .ok (.iconst 0, 1) := by decide +kernel
theorem dX1_readTruth_36 : decode cX1_readTruth 36 = .ok (.invokevirtual 62, 3) := by decide +kernel
theorem dX1_readTruth_39 : decode cX1_readTruth 39 = .ok (.ifCond .ne 5, 3) := by decide +kernel
theorem dX1_readTruth_42 : decode cX1_readTruth 42 = .ok (.iconst 0, 1) := by decide +kernel
theorem dX1_readTruth_43 : decode cX1_readTruth 43 = .ok (.ireturn, 1) := by decide +kernel
theorem dX1_readTruth_44 : decode cX1_readTruth 44 = .ok (.aload_n 0, 1) := by decide +kernel
theorem dX1_readTruth_45 : decode cX1_readTruth 45 = .ok (.bipush 10, 2) := by decide +kernel
theorem dX1_readTruth_47 : decode cX1_readTruth 47 = .ok (.iconst 0, 1) := by decide +kernel
theorem dX1_readTruth_48 : decode cX1_readTruth 48 = .ok (.invokevirtual 51, 3) := by decide +kernel
theorem dX1_readTruth_51 : decode cX1_readTruth 51 = .ok (.iinc 4 1, 3) := by decide +kernel
theorem dX1_readTruth_54 : decode cX1_readTruth 54 = .ok (.goto (-39), 3) := by decide +kernel
theorem dX1_readTruth_57 : decode cX1_readTruth 57 = .ok (.iconst 1, 1) := by decide +kernel
theorem dX1_readTruth_58 : decode cX1_readTruth 58 = .ok (.ireturn, 1) := by decide +kernel
def kX1_readTruth_0 (g : sk_G) (d ck sk : Nat) (Q : sk_P) : sk_K := o_aload 0 (o_aload 1 (o_iload 2 (o_iload 3 (o_invB (g, d, ck, sk, xX1_readTruth, Q) xX1_readUnit 3 1 0 0 (o_ifne (o_i (0) (o_istore 4 (sk_B (g, d, ck, sk, xX1_readTruth, Q) 15))) (o_i (0) (o_zret (g, d, ck, sk, xX1_readTruth, Q))))))))
theorem tX1_readTruth_0 {g : sk_G} {d ck sk : Nat} {Q : sk_P} : sk_S (g, d, ck, sk, xX1_readTruth, Q) 0 (kX1_readTruth_0 g d ck sk Q) := s_aload_n dX1_readTruth_0 rfl (s_aload_n dX1_readTruth_1 rfl (s_iload_n dX1_readTruth_2 rfl (s_iload_n dX1_readTruth_3 rfl (s_invB (w' := (g, d, ck, sk, xX1_readTruth, Q)) (ci := 1) (ck := 0) (sk := 0) (T := TX1) (N := 5) dX1_readTruth_4 m_X1_readUnit rfl (by decide) qm_X1_62 qi_X1_readUnit qe_X1_readUnit rfl (s_ifne (tgt := 12) dX1_readTruth_7 (by decide) (s_iconst dX1_readTruth_12 (s_istore dX1_readTruth_13 (by decide : 4 < 5) (sk_id))) (s_iconst dX1_readTruth_10 (s_zret dX1_readTruth_11 rfl)))))))
set_option maxRecDepth 20000 in
def kX1_readTruth_15 (g : sk_G) (d ck sk : Nat) (Q : sk_P) : sk_K := o_iload 4 (o_i (240) (o_icge (o_i (1) (o_zret (g, d, ck, sk, xX1_readTruth, Q))) (o_aload 1 (o_i (38) (o_invB (g, d, ck, sk, xX1_readTruth, Q) xX9_eats 1 9 0 0 (o_ifeq (o_i (1) (o_zret (g, d, ck, sk, xX1_readTruth, Q))) (o_aload 0 (o_aload 1 (o_iload 2 (o_i (0) (o_invB (g, d, ck, sk, xX1_readTruth, Q) xX1_readUnit 3 1 0 0 (o_ifne (o_aload 0 (o_i (10) (o_i (0) (o_invB (g, d, ck, sk, xX1_readTruth, Q) xX1_add 2 1 0 0 (o_iinc 4 (1) (sk_B (g, d, ck, sk, xX1_readTruth, Q) 15)))))) (o_i (0) (o_zret (g, d, ck, sk, xX1_readTruth, Q)))))))))))))))
set_option maxRecDepth 20000 in
theorem tX1_readTruth_15 {g : sk_G} {d ck sk : Nat} {Q : sk_P} : sk_S (g, d, ck, sk, xX1_readTruth, Q) 15 (kX1_readTruth_15 g d ck sk Q) := s_iload dX1_readTruth_15 (s_sipush dX1_readTruth_17 rfl (s_icge (tgt := 57) dX1_readTruth_20 (by decide) (s_iconst dX1_readTruth_57 (s_zret dX1_readTruth_58 rfl)) (s_aload_n dX1_readTruth_23 rfl (s_bipush dX1_readTruth_24 rfl (s_invB (w' := (g, d, ck, sk, xX1_readTruth, Q)) (ci := 9) (ck := 0) (sk := 0) (T := TX9) (N := 3) dX1_readTruth_26 m_X9_eats rfl (by decide) qm_X1_35 qi_X9_eats qe_X9_eats rfl (s_ifeq (tgt := 57) dX1_readTruth_29 (by decide) (s_iconst dX1_readTruth_57 (s_zret dX1_readTruth_58 rfl)) (s_aload_n dX1_readTruth_32 rfl (s_aload_n dX1_readTruth_33 rfl (s_iload_n dX1_readTruth_34 rfl (s_iconst dX1_readTruth_35 (s_invB (w' := (g, d, ck, sk, xX1_readTruth, Q)) (ci := 1) (ck := 0) (sk := 0) (T := TX1) (N := 5) dX1_readTruth_36 m_X1_readUnit rfl (by decide) qm_X1_62 qi_X1_readUnit qe_X1_readUnit rfl (s_ifne (tgt := 44) dX1_readTruth_39 (by decide) (s_aload_n dX1_readTruth_44 rfl (s_bipush dX1_readTruth_45 rfl (s_iconst dX1_readTruth_47 (s_invB (w' := (g, d, ck, sk, xX1_readTruth, Q)) (ci := 1) (ck := 0) (sk := 0) (T := TX1) (N := 5) dX1_readTruth_48 m_X1_add rfl (by decide) qm_X1_51 qi_X1_add qe_X1_add rfl (s_iinc dX1_readTruth_51 (by decide : 4 < 5) (s_goto (tgt := 15) dX1_readTruth_54 (by decide) (sk_id))))))) (s_iconst dX1_readTruth_42 (s_zret dX1_readTruth_43 rfl))))))))))))))
theorem dX1_readUnit_0 : decode cX1_readUnit 0 = .ok (.iload_n 3, 1) := by decide +kernel
theorem dX1_readUnit_1 : decode cX1_readUnit 1 = .ok (.ifCond .eq 7, 3) := by decide +kernel
theorem dX1_readUnit_4 : decode cX1_readUnit 4 = .ok (.iconst (-1), 1) := by decide +kernel
theorem dX1_readUnit_5 : decode cX1_readUnit 5 = .ok (.goto 9, 3) := by decide +kernel
theorem dX1_readUnit_8 : decode cX1_readUnit 8 = .ok (.aload_n 1, 1) := by decide +kernel
theorem dX1_readUnit_9 : decode cX1_readUnit 9 = .ok (.ldc 39, 2) := by decide +kernel
theorem dX1_readUnit_11 : decode cX1_readUnit 11 = .ok (.invokevirtual 41, 3) := by decide +kernel
theorem dX1_readUnit_14 : decode cX1_readUnit 14 = .ok (.istore 4, 2) := by decide +kernel
theorem dX1_readUnit_16 : decode cX1_readUnit 16 = .ok (.iload 4, 2) := by decide +kernel
theorem dX1_readUnit_18 : decode cX1_readUnit 18 = .ok (.ifCond .lt 20, 3) := by decide +kernel
theorem dX1_readUnit_21 : decode cX1_readUnit 21 = .ok (.aload_n 0, 1) := by decide +kernel
theorem dX1_readUnit_22 : decode cX1_readUnit 22 = .ok (.aload_n 1, 1) := by decide +kernel
theorem dX1_readUnit_23 : decode cX1_readUnit 23 = .ok (.iload_n 2, 1) := by decide +kernel
theorem dX1_readUnit_24 : decode cX1_readUnit 24 = .ok (.iload 4, 2) := by decide +kernel
theorem dX1_readUnit_26 : decode cX1_readUnit 26 = .ok (.ifCond .ne 7, 3) := by decide +kernel
theorem dX1_readUnit_29 : decode cX1_readUnit 29 = .ok (.iconst 1, 1) := by decide +kernel
theorem dX1_readUnit_30 : decode cX1_readUnit 30 = .ok (.goto 4, 3) := by decide +kernel
theorem dX1_readUnit_33 : decode cX1_readUnit 33 = .ok (.iconst 0, 1) := by decide +kernel
theorem dX1_readUnit_34 : decode cX1_readUnit 34 = .ok (.invokevirtual 65, 3) := by decide +kernel
theorem dX1_readUnit_37 : decode cX1_readUnit 37 = .ok (.ireturn, 1) := by decide +kernel
theorem dX1_readUnit_38 : decode cX1_readUnit 38 = .ok (.iload_n 3, 1) := by decide +kernel
theorem dX1_readUnit_39 : decode cX1_readUnit 39 = .ok (.ifCond .ne 14, 3) := by decide +kernel
theorem dX1_readUnit_42 : decode cX1_readUnit 42 = .ok (.aload_n 0, 1) := by decide +kernel
theorem dX1_readUnit_43 : decode cX1_readUnit 43 = .ok (.aload_n 1, 1) := by decide +kernel
theorem dX1_readUnit_44 : decode cX1_readUnit 44 = .ok (.iload_n 2, 1) := by decide +kernel
theorem dX1_readUnit_45 : decode cX1_readUnit 45 = .ok (.invokevirtual 45, 3) := by decide +kernel
theorem dX1_readUnit_48 : decode cX1_readUnit 48 = .ok (.ifCond .ne 5, 3) := by decide +kernel
theorem dX1_readUnit_51 : decode cX1_readUnit 51 = .ok (.iconst 0, 1) := by decide +kernel
theorem dX1_readUnit_52 : decode cX1_readUnit 52 = .ok (.ireturn, 1) := by decide +kernel
theorem dX1_readUnit_53 : decode cX1_readUnit 53 = .ok (.aload_n 1, 1) := by decide +kernel
theorem dX1_readUnit_54 : decode cX1_readUnit 54 = .ok (.ldc 49, 2) := by decide +kernel
theorem dX1_readUnit_56 : decode cX1_readUnit 56 = .ok (.invokevirtual 41, 3) := by decide +kernel
theorem dX1_readUnit_59 : decode cX1_readUnit 59 = .ok (.istore 5, 2) := by decide +kernel
theorem dX1_readUnit_61 : decode cX1_readUnit 61 = .ok (.iload 5, 2) := by decide +kernel
theorem dX1_readUnit_63 : decode cX1_readUnit 63 = .ok (.ifCond .ge 5, 3) := by decide +kernel
theorem dX1_readUnit_66 : decode cX1_readUnit 66 = .ok (.iconst 0, 1) := by decide +kernel
theorem dX1_readUnit_67 : decode cX1_readUnit 67 = .ok (.ireturn, 1) := by decide +kernel
theorem dX1_readUnit_68 : decode cX1_readUnit 68 = .ok (.aload_n 1, 1) := by decide +kernel
theorem dX1_readUnit_69 : decode cX1_readUnit 69 = .ok (.invokevirtual 68, 3) := by decide +kernel
theorem dX1_readUnit_72 : decode cX1_readUnit 72 = .ok (.aload_n 0, 1) := by decide +kernel
theorem dX1_readUnit_73 : decode cX1_readUnit 73 = .ok (.aload_n 1, 1) := by decide +kernel
theorem dX1_readUnit_74 : decode cX1_readUnit 74 = .ok (.iload_n 2, 1) := by decide +kernel
theorem dX1_readUnit_75 : decode cX1_readUnit 75 = .ok (.invokevirtual 45, 3) := by decide +kernel
theorem dX1_readUnit_78 : decode cX1_readUnit 78 = .ok (.ifCond .ne 5, 3) := by decide +kernel
theorem dX1_readUnit_81 : decode cX1_readUnit 81 = .ok (.iconst 0, 1) := by decide +kernel
theorem dX1_readUnit_82 : decode cX1_readUnit 82 = .ok (.ireturn, 1) := by decide +kernel
theorem dX1_readUnit_83 : decode cX1_readUnit 83 = .ok (.aload_n 0, 1) := by decide +kernel
theorem dX1_readUnit_84 : decode cX1_readUnit 84 = .ok (.bipush 6, 2) := by decide +kernel
theorem dX1_readUnit_86 : decode cX1_readUnit 86 = .ok (.iload 5, 2) := by decide +kernel
theorem dX1_readUnit_88 : decode cX1_readUnit 88 = .ok (.iadd, 1) := by decide +kernel
theorem dX1_readUnit_89 : decode cX1_readUnit 89 = .ok (.iconst 0, 1) := by decide +kernel
theorem dX1_readUnit_90 : decode cX1_readUnit 90 = .ok (.invokevirtual 51, 3) := by decide +kernel
theorem dX1_readUnit_93 : decode cX1_readUnit 93 = .ok (.iconst 1, 1) := by decide +kernel
theorem dX1_readUnit_94 : decode cX1_readUnit 94 = .ok (.ireturn, 1) := by decide +kernel
def kX1_readUnit_0 (g : sk_G) (d ck sk : Nat) (Q : sk_P) : sk_K := o_iload 3 (o_ifeq (o_aload 1 (o_lds (g, d, ck, sk, xX1_readUnit, Q) 2 (o_invB (g, d, ck, sk, xX1_readUnit, Q) xX9_peekAmong 1 9 0 0 (sk_B (g, d, ck, sk, xX1_readUnit, Q) 14)))) (o_i (-1) (sk_B (g, d, ck, sk, xX1_readUnit, Q) 14)))
theorem tX1_readUnit_0 {g : sk_G} {d ck sk : Nat} {Q : sk_P} : sk_S (g, d, ck, sk, xX1_readUnit, Q) 0 (kX1_readUnit_0 g d ck sk Q) := s_iload_n dX1_readUnit_0 rfl (s_ifeq (tgt := 8) dX1_readUnit_1 (by decide) (s_aload_n dX1_readUnit_8 rfl (s_lds dX1_readUnit_9 (i := 2) (by decide) rfl rfl (s_invB (w' := (g, d, ck, sk, xX1_readUnit, Q)) (ci := 9) (ck := 0) (sk := 0) (T := TX9) (N := 3) dX1_readUnit_11 m_X9_peekAmong rfl (by decide) qm_X1_41 qi_X9_peekAmong qe_X9_peekAmong rfl (sk_id)))) (s_iconst dX1_readUnit_4 (s_goto (tgt := 14) dX1_readUnit_5 (by decide) (sk_id))))
set_option maxRecDepth 20000 in
def kX1_readUnit_14 (g : sk_G) (d ck sk : Nat) (Q : sk_P) : sk_K := o_istore 4 (o_iload 4 (o_iflt (o_iload 3 (o_ifne (sk_B (g, d, ck, sk, xX1_readUnit, Q) 53) (o_aload 0 (o_aload 1 (o_iload 2 (o_invB (g, d, ck, sk, xX1_readUnit, Q) xX1_readSum 2 1 0 0 (o_ifne (sk_B (g, d, ck, sk, xX1_readUnit, Q) 53) (o_i (0) (o_zret (g, d, ck, sk, xX1_readUnit, Q)))))))))) (o_aload 0 (o_aload 1 (o_iload 2 (o_iload 4 (o_ifne (o_i (0) (o_invB (g, d, ck, sk, xX1_readUnit, Q) xX1_readOpened 3 1 0 0 (o_zret (g, d, ck, sk, xX1_readUnit, Q)))) (o_i (1) (o_invB (g, d, ck, sk, xX1_readUnit, Q) xX1_readOpened 3 1 0 0 (o_zret (g, d, ck, sk, xX1_readUnit, Q)))))))))))
set_option maxRecDepth 20000 in
theorem tX1_readUnit_14 {g : sk_G} {d ck sk : Nat} {Q : sk_P} : sk_S (g, d, ck, sk, xX1_readUnit, Q) 14 (kX1_readUnit_14 g d ck sk Q) := s_istore dX1_readUnit_14 (by decide : 4 < 6) (s_iload dX1_readUnit_16 (s_iflt (tgt := 38) dX1_readUnit_18 (by decide) (s_iload_n dX1_readUnit_38 rfl (s_ifne (tgt := 53) dX1_readUnit_39 (by decide) (sk_id) (s_aload_n dX1_readUnit_42 rfl (s_aload_n dX1_readUnit_43 rfl (s_iload_n dX1_readUnit_44 rfl (s_invB (w' := (g, d, ck, sk, xX1_readUnit, Q)) (ci := 1) (ck := 0) (sk := 0) (T := TX1) (N := 5) dX1_readUnit_45 m_X1_readSum rfl (by decide) qm_X1_45 qi_X1_readSum qe_X1_readSum rfl (s_ifne (tgt := 53) dX1_readUnit_48 (by decide) (sk_id) (s_iconst dX1_readUnit_51 (s_zret dX1_readUnit_52 rfl))))))))) (s_aload_n dX1_readUnit_21 rfl (s_aload_n dX1_readUnit_22 rfl (s_iload_n dX1_readUnit_23 rfl (s_iload dX1_readUnit_24 (s_ifne (tgt := 33) dX1_readUnit_26 (by decide) (s_iconst dX1_readUnit_33 (s_invB (w' := (g, d, ck, sk, xX1_readUnit, Q)) (ci := 1) (ck := 0) (sk := 0) (T := TX1) (N := 5) dX1_readUnit_34 m_X1_readOpened rfl (by decide) qm_X1_65 qi_X1_readOpened qe_X1_readOpened rfl (s_zret dX1_readUnit_37 rfl))) (s_iconst dX1_readUnit_29 (s_goto (tgt := 34) dX1_readUnit_30 (by decide) (s_invB (w' := (g, d, ck, sk, xX1_readUnit, Q)) (ci := 1) (ck := 0) (sk := 0) (T := TX1) (N := 5) dX1_readUnit_34 m_X1_readOpened rfl (by decide) qm_X1_65 qi_X1_readOpened qe_X1_readOpened rfl (s_zret dX1_readUnit_37 rfl)))))))))))
set_option maxRecDepth 20000 in
def kX1_readUnit_53 (g : sk_G) (d ck sk : Nat) (Q : sk_P) : sk_K := o_aload 1 (o_lds (g, d, ck, sk, xX1_readUnit, Q) 6 (o_invB (g, d, ck, sk, xX1_readUnit, Q) xX9_peekAmong 1 9 0 0 (o_istore 5 (o_iload 5 (o_ifge (o_aload 1 (o_invT (g, d, ck, sk, xX1_readUnit, Q) 1 0 9 (fun Q => kX9_step_0 g (d - 1) 0 0 Q) (o_aload 0 (o_aload 1 (o_iload 2 (o_invB (g, d, ck, sk, xX1_readUnit, Q) xX1_readSum 2 1 0 0 (o_ifne (o_aload 0 (o_i (6) (o_iload 5 (o_iadd (o_i (0) (o_invB (g, d, ck, sk, xX1_readUnit, Q) xX1_add 2 1 0 0 (o_i (1) (o_zret (g, d, ck, sk, xX1_readUnit, Q))))))))) (o_i (0) (o_zret (g, d, ck, sk, xX1_readUnit, Q)))))))))) (o_i (0) (o_zret (g, d, ck, sk, xX1_readUnit, Q))))))))
set_option maxRecDepth 20000 in
theorem tX1_readUnit_53 {g : sk_G} {d ck sk : Nat} {Q : sk_P} : sk_S (g, d, ck, sk, xX1_readUnit, Q) 53 (kX1_readUnit_53 g d ck sk Q) := s_aload_n dX1_readUnit_53 rfl (s_lds dX1_readUnit_54 (i := 6) (by decide) rfl rfl (s_invB (w' := (g, d, ck, sk, xX1_readUnit, Q)) (ci := 9) (ck := 0) (sk := 0) (T := TX9) (N := 3) dX1_readUnit_56 m_X9_peekAmong rfl (by decide) qm_X1_41 qi_X9_peekAmong qe_X9_peekAmong rfl (s_istore dX1_readUnit_59 (by decide : 5 < 6) (s_iload dX1_readUnit_61 (s_ifge (tgt := 68) dX1_readUnit_63 (by decide) (s_aload_n dX1_readUnit_68 rfl (s_invT (X := xX9_step) (ci := 9) (T := TX9) (N := 3) (K := (fun Q => kX9_step_0 g (d - 1) 0 0 Q)) (fun _ => tX9_step_0) rfl dX1_readUnit_69 m_X9_step rfl (by decide) qm_X1_68 qi_X9_step qe_X9_step (s_aload_n dX1_readUnit_72 rfl (s_aload_n dX1_readUnit_73 rfl (s_iload_n dX1_readUnit_74 rfl (s_invB (w' := (g, d, ck, sk, xX1_readUnit, Q)) (ci := 1) (ck := 0) (sk := 0) (T := TX1) (N := 5) dX1_readUnit_75 m_X1_readSum rfl (by decide) qm_X1_45 qi_X1_readSum qe_X1_readSum rfl (s_ifne (tgt := 83) dX1_readUnit_78 (by decide) (s_aload_n dX1_readUnit_83 rfl (s_bipush dX1_readUnit_84 rfl (s_iload dX1_readUnit_86 (s_iadd dX1_readUnit_88 (s_iconst dX1_readUnit_89 (s_invB (w' := (g, d, ck, sk, xX1_readUnit, Q)) (ci := 1) (ck := 0) (sk := 0) (T := TX1) (N := 5) dX1_readUnit_90 m_X1_add rfl (by decide) qm_X1_51 qi_X1_add qe_X1_add rfl (s_iconst dX1_readUnit_93 (s_zret dX1_readUnit_94 rfl)))))))) (s_iconst dX1_readUnit_81 (s_zret dX1_readUnit_82 rfl))))))))) (s_iconst dX1_readUnit_66 (s_zret dX1_readUnit_67 rfl)))))))
theorem dX1_readOpened_0 : decode cX1_readOpened 0 = .ok (.iload_n 2, 1) := by decide +kernel
theorem dX1_readOpened_1 : decode cX1_readOpened 1 = .ok (.bipush 6, 2) := by decide +kernel
theorem dX1_readOpened_3 : decode cX1_readOpened 3 = .ok (.if_icmp .lt 5, 3) := by decide +kernel
theorem dX1_readOpened_6 : decode cX1_readOpened 6 = .ok (.iconst 0, 1) := by decide +kernel
theorem dX1_readOpened_7 : decode cX1_readOpened 7 = .ok (.ireturn, 1) := by decide +kernel
theorem dX1_readOpened_8 : decode cX1_readOpened 8 = .ok (.aload_n 1, 1) := by decide +kernel
theorem dX1_readOpened_9 : decode cX1_readOpened 9 = .ok (.invokevirtual 68, 3) := by decide +kernel
theorem dX1_readOpened_12 : decode cX1_readOpened 12 = .ok (.iload_n 3, 1) := by decide +kernel
theorem dX1_readOpened_13 : decode cX1_readOpened 13 = .ok (.ifCond .ne 30, 3) := by decide +kernel
theorem dX1_readOpened_16 : decode cX1_readOpened 16 = .ok (.aload_n 0, 1) := by decide +kernel
theorem dX1_readOpened_17 : decode cX1_readOpened 17 = .ok (.aload_n 1, 1) := by decide +kernel
theorem dX1_readOpened_18 : decode cX1_readOpened 18 = .ok (.iload_n 2, 1) := by decide +kernel
theorem dX1_readOpened_19 : decode cX1_readOpened 19 = .ok (.iconst 1, 1) := by decide +kernel
theorem dX1_readOpened_20 : decode cX1_readOpened 20 = .ok (.iadd, 1) := by decide +kernel
theorem dX1_readOpened_21 : decode cX1_readOpened 21 = .ok (.iconst 0, 1) := by decide +kernel
theorem dX1_readOpened_22 : decode cX1_readOpened 22 = .ok (.invokevirtual 55, 3) := by decide +kernel
theorem dX1_readOpened_25 : decode cX1_readOpened 25 = .ok (.ifCond .eq 16, 3) := by decide +kernel
theorem dX1_readOpened_28 : decode cX1_readOpened 28 = .ok (.aload_n 1, 1) := by decide +kernel
theorem dX1_readOpened_29 : decode cX1_readOpened 29 = .ok (.bipush 41, 2) := by decide +kernel
theorem dX1_readOpened_31 : decode cX1_readOpened 31 = .ok (.invokevirtual 35, 3) := by decide +kernel
theorem dX1_readOpened_34 : decode cX1_readOpened 34 = .ok (.ifCond .eq 7, 3) := by decide +kernel
theorem dX1_readOpened_37 : decode cX1_readOpened 37 = .ok (.iconst 1, 1) := by decide +kernel
theorem dX1_readOpened_38 : decode cX1_readOpened 38 = .ok (.goto 4, 3) := by decide +kernel
theorem dX1_readOpened_41 : decode cX1_readOpened 41 = .ok (.iconst 0, 1) := by decide +kernel
theorem dX1_readOpened_42 : decode cX1_readOpened 42 = .ok (.ireturn, 1) := by decide +kernel
theorem dX1_readOpened_43 : decode cX1_readOpened 43 = .ok (.aload_n 0, 1) := by decide +kernel
theorem dX1_readOpened_44 : decode cX1_readOpened 44 = .ok (.aload_n 1, 1) := by decide +kernel
theorem dX1_readOpened_45 : decode cX1_readOpened 45 = .ok (.iload_n 2, 1) := by decide +kernel
theorem dX1_readOpened_46 : decode cX1_readOpened 46 = .ok (.iconst 1, 1) := by decide +kernel
theorem dX1_readOpened_47 : decode cX1_readOpened 47 = .ok (.iadd, 1) := by decide +kernel
theorem dX1_readOpened_48 : decode cX1_readOpened 48 = .ok (.iconst 0, 1) := by decide +kernel
theorem dX1_readOpened_49 : decode cX1_readOpened 49 = .ok (.invokevirtual 62, 3) := by decide +kernel
theorem dX1_readOpened_52 : decode cX1_readOpened 52 = .ok (.ifCond .ne 5, 3) := by decide +kernel
theorem dX1_readOpened_55 : decode cX1_readOpened 55 = .ok (.iconst 0, 1) := by decide +kernel
theorem dX1_readOpened_56 : decode cX1_readOpened 56 = .ok (.ireturn, 1) := by decide +kernel
theorem dX1_readOpened_57 : decode cX1_readOpened 57 = .ok (.aload_n 0, 1) := by decide +kernel
theorem dX1_readOpened_58 : decode cX1_readOpened 58 = .ok (.bipush 9, 2) := by decide +kernel
theorem dX1_readOpened_60 : decode cX1_readOpened 60 = .ok (.iconst 0, 1) := by decide +kernel
theorem dX1_readOpened_61 : decode cX1_readOpened 61 = .ok (.invokevirtual 51, 3) := by decide +kernel
theorem dX1_readOpened_64 : decode cX1_readOpened 64 = .ok (.iconst 1, 1) := by decide +kernel
theorem dX1_readOpened_65 : decode cX1_readOpened 65 = .ok (.ireturn, 1) := by decide +kernel
set_option maxRecDepth 20000 in
def kX1_readOpened_0 (g : sk_G) (d ck sk : Nat) (Q : sk_P) : sk_K := o_iload 2 (o_i (6) (o_iclt (o_aload 1 (o_invT (g, d, ck, sk, xX1_readOpened, Q) 1 0 9 (fun Q => kX9_step_0 g (d - 1) 0 0 Q) (o_iload 3 (o_ifne (o_aload 0 (o_aload 1 (o_iload 2 (o_i (1) (o_iadd (o_i (0) (o_invB (g, d, ck, sk, xX1_readOpened, Q) xX1_readUnit 3 1 0 0 (o_ifne (o_aload 0 (o_i (9) (o_i (0) (o_invB (g, d, ck, sk, xX1_readOpened, Q) xX1_add 2 1 0 0 (o_i (1) (o_zret (g, d, ck, sk, xX1_readOpened, Q))))))) (o_i (0) (o_zret (g, d, ck, sk, xX1_readOpened, Q))))))))))) (o_aload 0 (o_aload 1 (o_iload 2 (o_i (1) (o_iadd (o_i (0) (o_invB (g, d, ck, sk, xX1_readOpened, Q) xX1_readCondition 3 1 0 0 (o_ifeq (o_i (0) (o_zret (g, d, ck, sk, xX1_readOpened, Q))) (o_aload 1 (o_i (41) (o_invB (g, d, ck, sk, xX1_readOpened, Q) xX9_eats 1 9 0 0 (o_ifeq (o_i (0) (o_zret (g, d, ck, sk, xX1_readOpened, Q))) (o_i (1) (o_zret (g, d, ck, sk, xX1_readOpened, Q))))))))))))))))))) (o_i (0) (o_zret (g, d, ck, sk, xX1_readOpened, Q)))))
set_option maxRecDepth 20000 in
theorem tX1_readOpened_0 {g : sk_G} {d ck sk : Nat} {Q : sk_P} : sk_S (g, d, ck, sk, xX1_readOpened, Q) 0 (kX1_readOpened_0 g d ck sk Q) := s_iload_n dX1_readOpened_0 rfl (s_bipush dX1_readOpened_1 rfl (s_iclt (tgt := 8) dX1_readOpened_3 (by decide) (s_aload_n dX1_readOpened_8 rfl (s_invT (X := xX9_step) (ci := 9) (T := TX9) (N := 3) (K := (fun Q => kX9_step_0 g (d - 1) 0 0 Q)) (fun _ => tX9_step_0) rfl dX1_readOpened_9 m_X9_step rfl (by decide) qm_X1_68 qi_X9_step qe_X9_step (s_iload_n dX1_readOpened_12 rfl (s_ifne (tgt := 43) dX1_readOpened_13 (by decide) (s_aload_n dX1_readOpened_43 rfl (s_aload_n dX1_readOpened_44 rfl (s_iload_n dX1_readOpened_45 rfl (s_iconst dX1_readOpened_46 (s_iadd dX1_readOpened_47 (s_iconst dX1_readOpened_48 (s_invB (w' := (g, d, ck, sk, xX1_readOpened, Q)) (ci := 1) (ck := 0) (sk := 0) (T := TX1) (N := 5) dX1_readOpened_49 m_X1_readUnit rfl (by decide) qm_X1_62 qi_X1_readUnit qe_X1_readUnit rfl (s_ifne (tgt := 57) dX1_readOpened_52 (by decide) (s_aload_n dX1_readOpened_57 rfl (s_bipush dX1_readOpened_58 rfl (s_iconst dX1_readOpened_60 (s_invB (w' := (g, d, ck, sk, xX1_readOpened, Q)) (ci := 1) (ck := 0) (sk := 0) (T := TX1) (N := 5) dX1_readOpened_61 m_X1_add rfl (by decide) qm_X1_51 qi_X1_add qe_X1_add rfl (s_iconst dX1_readOpened_64 (s_zret dX1_readOpened_65 rfl)))))) (s_iconst dX1_readOpened_55 (s_zret dX1_readOpened_56 rfl)))))))))) (s_aload_n dX1_readOpened_16 rfl (s_aload_n dX1_readOpened_17 rfl (s_iload_n dX1_readOpened_18 rfl (s_iconst dX1_readOpened_19 (s_iadd dX1_readOpened_20 (s_iconst dX1_readOpened_21 (s_invB (w' := (g, d, ck, sk, xX1_readOpened, Q)) (ci := 1) (ck := 0) (sk := 0) (T := TX1) (N := 5) dX1_readOpened_22 m_X1_readCondition rfl (by decide) qm_X1_55 qi_X1_readCondition qe_X1_readCondition rfl (s_ifeq (tgt := 41) dX1_readOpened_25 (by decide) (s_iconst dX1_readOpened_41 (s_zret dX1_readOpened_42 rfl)) (s_aload_n dX1_readOpened_28 rfl (s_bipush dX1_readOpened_29 rfl (s_invB (w' := (g, d, ck, sk, xX1_readOpened, Q)) (ci := 9) (ck := 0) (sk := 0) (T := TX9) (N := 3) dX1_readOpened_31 m_X9_eats rfl (by decide) qm_X1_35 qi_X9_eats qe_X9_eats rfl (s_ifeq (tgt := 41) dX1_readOpened_34 (by decide) (s_iconst dX1_readOpened_41 (s_zret dX1_readOpened_42 rfl)) (s_iconst dX1_readOpened_37 (s_goto (tgt := 42) dX1_readOpened_38 (by decide) (s_zret dX1_readOpened_42 rfl))))))))))))))))))) (s_iconst dX1_readOpened_6 (s_zret dX1_readOpened_7 rfl))))
theorem dX1_worth_0 : decode cX1_worth 0 = .ok (.aload_n 0, 1) := by decide +kernel
theorem dX1_worth_1 : decode cX1_worth 1 = .ok (.getfield 17, 3) := by decide +kernel
theorem dX1_worth_4 : decode cX1_worth 4 = .ok (.iconst 0, 1) := by decide +kernel
theorem dX1_worth_5 : decode cX1_worth 5 = .ok (.iload_n 1, 1) := by decide +kernel
theorem dX1_worth_6 : decode cX1_worth 6 = .ok (.iastore, 1) := by decide +kernel
theorem dX1_worth_7 : decode cX1_worth 7 = .ok (.aload_n 0, 1) := by decide +kernel
theorem dX1_worth_8 : decode cX1_worth 8 = .ok (.getfield 17, 3) := by decide +kernel
theorem dX1_worth_11 : decode cX1_worth 11 = .ok (.iconst 1, 1) := by decide +kernel
theorem dX1_worth_12 : decode cX1_worth 12 = .ok (.iload_n 2, 1) := by decide +kernel
theorem dX1_worth_13 : decode cX1_worth 13 = .ok (.iastore, 1) := by decide +kernel
theorem dX1_worth_14 : decode cX1_worth 14 = .ok (.aload_n 0, 1) := by decide +kernel
theorem dX1_worth_15 : decode cX1_worth 15 = .ok (.getfield 17, 3) := by decide +kernel
theorem dX1_worth_18 : decode cX1_worth 18 = .ok (.iconst 2, 1) := by decide +kernel
theorem dX1_worth_19 : decode cX1_worth 19 = .ok (.iload_n 3, 1) := by decide +kernel
theorem dX1_worth_20 : decode cX1_worth 20 = .ok (.iastore, 1) := by decide +kernel
theorem dX1_worth_21 : decode cX1_worth 21 = .ok (.aload_n 0, 1) := by decide +kernel
theorem dX1_worth_22 : decode cX1_worth 22 = .ok (.getfield 17, 3) := by decide +kernel
theorem dX1_worth_25 : decode cX1_worth 25 = .ok (.iconst 3, 1) := by decide +kernel
theorem dX1_worth_26 : decode cX1_worth 26 = .ok (.iload 4, 2) := by decide +kernel
theorem dX1_worth_28 : decode cX1_worth 28 = .ok (.iastore, 1) := by decide +kernel
theorem dX1_worth_29 : decode cX1_worth 29 = .ok (.aload_n 0, 1) := by decide +kernel
theorem dX1_worth_30 : decode cX1_worth 30 = .ok (.getfield 17, 3) := by decide +kernel
theorem dX1_worth_33 : decode cX1_worth 33 = .ok (.iconst 4, 1) := by decide +kernel
theorem dX1_worth_34 : decode cX1_worth 34 = .ok (.iload 5, 2) := by decide +kernel
theorem dX1_worth_36 : decode cX1_worth 36 = .ok (.iastore, 1) := by decide +kernel
theorem dX1_worth_37 : decode cX1_worth 37 = .ok (.aload_n 0, 1) := by decide +kernel
theorem dX1_worth_38 : decode cX1_worth 38 = .ok (.getfield 17, 3) := by decide +kernel
theorem dX1_worth_41 : decode cX1_worth 41 = .ok (.iconst 5, 1) := by decide +kernel
theorem dX1_worth_42 : decode cX1_worth 42 = .ok (.iload 6, 2) := by decide +kernel
theorem dX1_worth_44 : decode cX1_worth 44 = .ok (.iastore, 1) := by decide +kernel
theorem dX1_worth_45 : decode cX1_worth 45 = .ok (.aload_n 0, 1) := by decide +kernel
theorem dX1_worth_46 : decode cX1_worth 46 = .ok (.iconst 0, 1) := by decide +kernel
theorem dX1_worth_47 : decode cX1_worth 47 = .ok (.putfield 91, 3) := by decide +kernel
theorem dX1_worth_50 : decode cX1_worth 50 = .ok (.iconst 0, 1) := by decide +kernel
theorem dX1_worth_51 : decode cX1_worth 51 = .ok (.istore 7, 2) := by decide +kernel
theorem dX1_worth_53 : decode cX1_worth 53 = .ok (.iload 7, 2) := by decide +kernel
theorem dX1_worth_55 : decode cX1_worth 55 = .ok (.aload_n 0, 1) := by decide +kernel
theorem dX1_worth_56 : decode cX1_worth 56 = .ok (.getfield 23, 3) := by decide +kernel
theorem dX1_worth_59 : decode cX1_worth 59 = .ok (.if_icmp .ge 80, 3) := by decide +kernel
theorem dX1_worth_62 : decode cX1_worth 62 = .ok (.aload_n 0, 1) := by decide +kernel
theorem dX1_worth_63 : decode cX1_worth 63 = .ok (.getfield 11, 3) := by decide +kernel
theorem dX1_worth_66 : decode cX1_worth 66 = .ok (.iload 7, 2) := by decide +kernel
theorem dX1_worth_68 : decode cX1_worth 68 = .ok (.iaload, 1) := by decide +kernel
theorem dX1_worth_69 : decode cX1_worth 69 = .ok (.bipush 15, 2) := by decide +kernel
theorem dX1_worth_71 : decode cX1_worth 71 = .ok (.iand, 1) := by decide +kernel
theorem dX1_worth_72 : decode cX1_worth 72 = .ok (.istore 8, 2) := by decide +kernel
theorem dX1_worth_74 : decode cX1_worth 74 = .ok (.aload_n 0, 1) := by decide +kernel
theorem dX1_worth_75 : decode cX1_worth 75 = .ok (.getfield 11, 3) := by decide +kernel
theorem dX1_worth_78 : decode cX1_worth 78 = .ok (.iload 7, 2) := by decide +kernel
theorem dX1_worth_80 : decode cX1_worth 80 = .ok (.iaload, 1) := by decide +kernel
theorem dX1_worth_81 : decode cX1_worth 81 = .ok (.iconst 4, 1) := by decide +kernel
theorem dX1_worth_82 : decode cX1_worth 82 = .ok (.ishr, 1) := by decide +kernel
theorem dX1_worth_83 : decode cX1_worth 83 = .ok (.istore 9, 2) := by decide +kernel
theorem dX1_worth_85 : decode cX1_worth 85 = .ok (.iload 8, 2) := by decide +kernel
theorem dX1_worth_87 : decode cX1_worth 87 = .ok (.bipush 13, 2) := by decide +kernel
theorem dX1_worth_89 : decode cX1_worth 89 = .ok (.if_icmp .ne 8, 3) := by decide +kernel
theorem dX1_worth_92 : decode cX1_worth 92 = .ok (.aload_n 0, 1) := by decide +kernel
theorem dX1_worth_93 : decode cX1_worth 93 = .ok (.invokevirtual 94, 3) := by decide +kernel
theorem dX1_worth_96 : decode cX1_worth 96 = .ok (.ireturn, 1) := by decide +kernel
theorem dX1_worth_97 : decode cX1_worth 97 = .ok (.iload 8, 2) := by decide +kernel
theorem dX1_worth_99 : decode cX1_worth 99 = .ok (.bipush 12, 2) := by decide +kernel
theorem dX1_worth_101 : decode cX1_worth 101 = .ok (.if_icmp .eq 14, 3) := by decide +kernel
theorem dX1_worth_104 : decode cX1_worth 104 = .ok (.aload_n 0, 1) := by decide +kernel
theorem dX1_worth_105 : decode cX1_worth 105 = .ok (.iload 8, 2) := by decide +kernel
theorem dX1_worth_107 : decode cX1_worth 107 = .ok (.iload 9, 2) := by decide +kernel
theorem dX1_worth_109 : decode cX1_worth 109 = .ok (.invokevirtual 97, 3) := by decide +kernel
theorem dX1_worth_112 : decode cX1_worth 112 = .ok (.goto 21, 3) := by decide +kernel
theorem dX1_worth_115 : decode cX1_worth 115 = .ok (.aload_n 0, 1) := by decide +kernel
theorem dX1_worth_116 : decode cX1_worth 116 = .ok (.invokevirtual 94, 3) := by decide +kernel
theorem dX1_worth_119 : decode cX1_worth 119 = .ok (.ifCond .ne 14, 3) := by decide +kernel
theorem dX1_worth_122 : decode cX1_worth 122 = .ok (.iload 7, 2) := by decide +kernel
theorem dX1_worth_124 : decode cX1_worth 124 = .ok (.iload 9, 2) := by decide +kernel
theorem dX1_worth_126 : decode cX1_worth 126 = .ok (.iconst 1, 1) := by decide +kernel
theorem dX1_worth_127 : decode cX1_worth 127 = .ok (.isub, 1) := by decide +kernel
theorem dX1_worth_128 : decode cX1_worth 128 = .ok (.invokestatic 100, 3) := by decide +kernel
theorem dX1_worth_131 : decode cX1_worth 131 = .ok (.istore 7, 2) := by decide +kernel
theorem dX1_worth_133 : decode cX1_worth 133 = .ok (.iinc 7 1, 3) := by decide +kernel
theorem dX1_worth_136 : decode cX1_worth 136 = .ok (.goto (-83), 3) := by decide +kernel
theorem dX1_worth_139 : decode cX1_worth 139 = .ok (.iconst 0, 1) := by decide +kernel
theorem dX1_worth_140 : decode cX1_worth 140 = .ok (.ireturn, 1) := by decide +kernel
set_option maxRecDepth 20000 in
def kX1_worth_0 (g : sk_G) (d ck sk : Nat) (Q : sk_P) : sk_K := o_aload 0 (o_getf 1 2 (o_i (0) (o_iload 1 (o_iastore (o_aload 0 (o_getf 1 2 (o_i (1) (o_iload 2 (o_iastore (o_aload 0 (o_getf 1 2 (o_i (2) (o_iload 3 (o_iastore (o_aload 0 (o_getf 1 2 (o_i (3) (o_iload 4 (o_iastore (o_aload 0 (o_getf 1 2 (o_i (4) (o_iload 5 (o_iastore (o_aload 0 (o_getf 1 2 (o_i (5) (o_iload 6 (o_iastore (o_aload 0 (o_i (0) (o_puti 1 4 (o_i (0) (o_istore 7 (sk_B (g, d, ck, sk, xX1_worth, Q) 53)))))))))))))))))))))))))))))))))))
set_option maxRecDepth 20000 in
theorem tX1_worth_0 {g : sk_G} {d ck sk : Nat} {Q : sk_P} : sk_S (g, d, ck, sk, xX1_worth, Q) 0 (kX1_worth_0 g d ck sk Q) := s_aload_n dX1_worth_0 rfl (s_getf (ci := 1) (j := 2) (C := RX1) (T := TX1) (N := 5) dX1_worth_1 rfl (by decide) (by decide) qf_X1_17 (s_iconst dX1_worth_4 (s_iload_n dX1_worth_5 rfl (s_iastore dX1_worth_6 (s_aload_n dX1_worth_7 rfl (s_getf (ci := 1) (j := 2) (C := RX1) (T := TX1) (N := 5) dX1_worth_8 rfl (by decide) (by decide) qf_X1_17 (s_iconst dX1_worth_11 (s_iload_n dX1_worth_12 rfl (s_iastore dX1_worth_13 (s_aload_n dX1_worth_14 rfl (s_getf (ci := 1) (j := 2) (C := RX1) (T := TX1) (N := 5) dX1_worth_15 rfl (by decide) (by decide) qf_X1_17 (s_iconst dX1_worth_18 (s_iload_n dX1_worth_19 rfl (s_iastore dX1_worth_20 (s_aload_n dX1_worth_21 rfl (s_getf (ci := 1) (j := 2) (C := RX1) (T := TX1) (N := 5) dX1_worth_22 rfl (by decide) (by decide) qf_X1_17 (s_iconst dX1_worth_25 (s_iload dX1_worth_26 (s_iastore dX1_worth_28 (s_aload_n dX1_worth_29 rfl (s_getf (ci := 1) (j := 2) (C := RX1) (T := TX1) (N := 5) dX1_worth_30 rfl (by decide) (by decide) qf_X1_17 (s_iconst dX1_worth_33 (s_iload dX1_worth_34 (s_iastore dX1_worth_36 (s_aload_n dX1_worth_37 rfl (s_getf (ci := 1) (j := 2) (C := RX1) (T := TX1) (N := 5) dX1_worth_38 rfl (by decide) (by decide) qf_X1_17 (s_iconst dX1_worth_41 (s_iload dX1_worth_42 (s_iastore dX1_worth_44 (s_aload_n dX1_worth_45 rfl (s_iconst dX1_worth_46 (s_puti (ci := 1) (j := 4) (C := RX1) (T := TX1) (N := 5) dX1_worth_47 rfl (by decide) (by decide) rfl (tyX1_ok 4 (by decide)) qf_X1_91 (s_iconst dX1_worth_50 (s_istore dX1_worth_51 (by decide : 7 < 10) (sk_id)))))))))))))))))))))))))))))))))))
set_option maxRecDepth 20000 in
def kX1_worth_53 (g : sk_G) (d ck sk : Nat) (Q : sk_P) : sk_K := o_iload 7 (o_aload 0 (o_getf 1 1 (o_icge (o_i (0) (o_iret (g, d, ck, sk, xX1_worth, Q))) (o_aload 0 (o_getf 1 0 (o_iload 7 (o_iaload (o_i (15) (o_iand (o_istore 8 (o_aload 0 (o_getf 1 0 (o_iload 7 (o_iaload (o_i (4) (o_ishr (o_istore 9 (o_iload 8 (o_i (13) (o_icne (o_iload 8 (o_i (12) (o_iceq (o_aload 0 (o_invT (g, d, ck, sk, xX1_worth, Q) 1 0 1 (fun Q => kX1_pop_0 g (d - 1) 0 0 Q) (o_ifne (o_iinc 7 (1) (sk_B (g, d, ck, sk, xX1_worth, Q) 53)) (o_iload 7 (o_iload 9 (o_i (1) (o_isub (o_max (g, d, ck, sk, xX1_worth, Q) (o_istore 7 (o_iinc 7 (1) (sk_B (g, d, ck, sk, xX1_worth, Q) 53))))))))))) (o_aload 0 (o_iload 8 (o_iload 9 (o_invB (g, d, ck, sk, xX1_worth, Q) xX1_run 2 1 0 0 (o_iinc 7 (1) (sk_B (g, d, ck, sk, xX1_worth, Q) 53))))))))) (o_aload 0 (o_invT (g, d, ck, sk, xX1_worth, Q) 1 0 1 (fun Q => kX1_pop_0 g (d - 1) 0 0 Q) (o_iret (g, d, ck, sk, xX1_worth, Q))))))))))))))))))))))))
set_option maxRecDepth 20000 in
theorem tX1_worth_53 {g : sk_G} {d ck sk : Nat} {Q : sk_P} : sk_S (g, d, ck, sk, xX1_worth, Q) 53 (kX1_worth_53 g d ck sk Q) := s_iload dX1_worth_53 (s_aload_n dX1_worth_55 rfl (s_getf (ci := 1) (j := 1) (C := RX1) (T := TX1) (N := 5) dX1_worth_56 rfl (by decide) (by decide) qf_X1_23 (s_icge (tgt := 139) dX1_worth_59 (by decide) (s_iconst dX1_worth_139 (s_iret dX1_worth_140 rfl)) (s_aload_n dX1_worth_62 rfl (s_getf (ci := 1) (j := 0) (C := RX1) (T := TX1) (N := 5) dX1_worth_63 rfl (by decide) (by decide) qf_X1_11 (s_iload dX1_worth_66 (s_iaload dX1_worth_68 (s_bipush dX1_worth_69 rfl (s_iand dX1_worth_71 (s_istore dX1_worth_72 (by decide : 8 < 10) (s_aload_n dX1_worth_74 rfl (s_getf (ci := 1) (j := 0) (C := RX1) (T := TX1) (N := 5) dX1_worth_75 rfl (by decide) (by decide) qf_X1_11 (s_iload dX1_worth_78 (s_iaload dX1_worth_80 (s_iconst dX1_worth_81 (s_ishr dX1_worth_82 (s_istore dX1_worth_83 (by decide : 9 < 10) (s_iload dX1_worth_85 (s_bipush dX1_worth_87 rfl (s_icne (tgt := 97) dX1_worth_89 (by decide) (s_iload dX1_worth_97 (s_bipush dX1_worth_99 rfl (s_iceq (tgt := 115) dX1_worth_101 (by decide) (s_aload_n dX1_worth_115 rfl (s_invT (X := xX1_pop) (ci := 1) (T := TX1) (N := 5) (K := (fun Q => kX1_pop_0 g (d - 1) 0 0 Q)) (fun _ => tX1_pop_0) rfl dX1_worth_116 m_X1_pop rfl (by decide) qm_X1_94 qi_X1_pop qe_X1_pop (s_ifne (tgt := 133) dX1_worth_119 (by decide) (s_iinc dX1_worth_133 (by decide : 7 < 10) (s_goto (tgt := 53) dX1_worth_136 (by decide) (sk_id))) (s_iload dX1_worth_122 (s_iload dX1_worth_124 (s_iconst dX1_worth_126 (s_isub dX1_worth_127 (s_max dX1_worth_128 qm_X1_100 qs_Mmax qz_J9 qc_Mmax (s_istore dX1_worth_131 (by decide : 7 < 10) (s_iinc dX1_worth_133 (by decide : 7 < 10) (s_goto (tgt := 53) dX1_worth_136 (by decide) (sk_id)))))))))))) (s_aload_n dX1_worth_104 rfl (s_iload dX1_worth_105 (s_iload dX1_worth_107 (s_invB (w' := (g, d, ck, sk, xX1_worth, Q)) (ci := 1) (ck := 0) (sk := 0) (T := TX1) (N := 5) dX1_worth_109 m_X1_run rfl (by decide) qm_X1_97 qi_X1_run qe_X1_run rfl (s_goto (tgt := 133) dX1_worth_112 (by decide) (s_iinc dX1_worth_133 (by decide : 7 < 10) (s_goto (tgt := 53) dX1_worth_136 (by decide) (sk_id))))))))))) (s_aload_n dX1_worth_92 rfl (s_invT (X := xX1_pop) (ci := 1) (T := TX1) (N := 5) (K := (fun Q => kX1_pop_0 g (d - 1) 0 0 Q)) (fun _ => tX1_pop_0) rfl dX1_worth_93 m_X1_pop rfl (by decide) qm_X1_94 qi_X1_pop qe_X1_pop (s_iret dX1_worth_96 rfl)))))))))))))))))))))))
theorem dX1_run_0 : decode cX1_run 0 = .ok (.iload_n 1, 1) := by decide +kernel
theorem dX1_run_1 : decode cX1_run 1 = .ok (.ifCond .ne 11, 3) := by decide +kernel
theorem dX1_run_4 : decode cX1_run 4 = .ok (.aload_n 0, 1) := by decide +kernel
theorem dX1_run_5 : decode cX1_run 5 = .ok (.iload_n 2, 1) := by decide +kernel
theorem dX1_run_6 : decode cX1_run 6 = .ok (.invokevirtual 106, 3) := by decide +kernel
theorem dX1_run_9 : decode cX1_run 9 = .ok (.goto 82, 3) := by decide +kernel
theorem dX1_run_12 : decode cX1_run 12 = .ok (.iload_n 1, 1) := by decide +kernel
theorem dX1_run_13 : decode cX1_run 13 = .ok (.iconst 1, 1) := by decide +kernel
theorem dX1_run_14 : decode cX1_run 14 = .ok (.if_icmp .ne 33, 3) := by decide +kernel
theorem dX1_run_17 : decode cX1_run 17 = .ok (.aload_n 0, 1) := by decide +kernel
theorem dX1_run_18 : decode cX1_run 18 = .ok (.iload_n 2, 1) := by decide +kernel
theorem dX1_run_19 : decode cX1_run 19 = .ok (.ifCond .lt 21, 3) := by decide +kernel
theorem dX1_run_22 : decode cX1_run 22 = .ok (.iload_n 2, 1) := by decide +kernel
theorem dX1_run_23 : decode cX1_run 23 = .ok (.aload_n 0, 1) := by decide +kernel
theorem dX1_run_24 : decode cX1_run 24 = .ok (.getfield 17, 3) := by decide +kernel
theorem dX1_run_27 : decode cX1_run 27 = .ok (.arraylength, 1) := by decide +kernel
theorem dX1_run_28 : decode cX1_run 28 = .ok (.if_icmp .ge 12, 3) := by decide +kernel
theorem dX1_run_31 : decode cX1_run 31 = .ok (.aload_n 0, 1) := by decide +kernel
theorem dX1_run_32 : decode cX1_run 32 = .ok (.getfield 17, 3) := by decide +kernel
theorem dX1_run_35 : decode cX1_run 35 = .ok (.iload_n 2, 1) := by decide +kernel
theorem dX1_run_36 : decode cX1_run 36 = .ok (.iaload, 1) := by decide +kernel
theorem dX1_run_37 : decode cX1_run 37 = .ok (.goto 4, 3) := by decide +kernel
theorem dX1_run_40 : decode cX1_run 40 = .ok (.iconst 0, 1) := by decide +kernel
theorem dX1_run_41 : decode cX1_run 41 = .ok (.invokevirtual 106, 3) := by decide +kernel
theorem dX1_run_44 : decode cX1_run 44 = .ok (.goto 47, 3) := by decide +kernel
theorem dX1_run_47 : decode cX1_run 47 = .ok (.iload_n 1, 1) := by decide +kernel
theorem dX1_run_48 : decode cX1_run 48 = .ok (.bipush 9, 2) := by decide +kernel
theorem dX1_run_50 : decode cX1_run 50 = .ok (.if_icmp .ne 16, 3) := by decide +kernel
theorem dX1_run_53 : decode cX1_run 53 = .ok (.aload_n 0, 1) := by decide +kernel
theorem dX1_run_54 : decode cX1_run 54 = .ok (.iconst 1, 1) := by decide +kernel
theorem dX1_run_55 : decode cX1_run 55 = .ok (.aload_n 0, 1) := by decide +kernel
theorem dX1_run_56 : decode cX1_run 56 = .ok (.invokevirtual 94, 3) := by decide +kernel
theorem dX1_run_59 : decode cX1_run 59 = .ok (.isub, 1) := by decide +kernel
theorem dX1_run_60 : decode cX1_run 60 = .ok (.invokevirtual 106, 3) := by decide +kernel
theorem dX1_run_63 : decode cX1_run 63 = .ok (.goto 28, 3) := by decide +kernel
theorem dX1_run_66 : decode cX1_run 66 = .ok (.aload_n 0, 1) := by decide +kernel
theorem dX1_run_67 : decode cX1_run 67 = .ok (.invokevirtual 94, 3) := by decide +kernel
theorem dX1_run_70 : decode cX1_run 70 = .ok (.istore_n 3, 1) := by decide +kernel
theorem dX1_run_71 : decode cX1_run 71 = .ok (.aload_n 0, 1) := by decide +kernel
theorem dX1_run_72 : decode cX1_run 72 = .ok (.invokevirtual 94, 3) := by decide +kernel
theorem dX1_run_75 : decode cX1_run 75 = .ok (.istore 4, 2) := by decide +kernel
theorem dX1_run_77 : decode cX1_run 77 = .ok (.aload_n 0, 1) := by decide +kernel
theorem dX1_run_78 : decode cX1_run 78 = .ok (.iload_n 1, 1) := by decide +kernel
theorem dX1_run_79 : decode cX1_run 79 = .ok (.iload 4, 2) := by decide +kernel
theorem dX1_run_81 : decode cX1_run 81 = .ok (.iload_n 3, 1) := by decide +kernel
theorem dX1_run_82 : decode cX1_run 82 = .ok (.invokestatic 110, 3) := by decide +kernel
theorem dX1_run_85 : decode cX1_run 85 = .ok (.invokestatic 114, 3) := by decide +kernel
theorem dX1_run_88 : decode cX1_run 88 = .ok (.invokevirtual 106, 3) := by decide +kernel
theorem dX1_run_91 : decode cX1_run 91 = .ok (.return_, 1) := by decide +kernel
set_option maxRecDepth 20000 in
def kX1_run_0 (g : sk_G) (d ck sk : Nat) (Q : sk_P) : sk_K := o_iload 1 (o_ifne (o_iload 1 (o_i (1) (o_icne (o_iload 1 (o_i (9) (o_icne (o_aload 0 (o_invT (g, d, ck, sk, xX1_run, Q) 1 0 1 (fun Q => kX1_pop_0 g (d - 1) 0 0 Q) (o_istore 3 (o_aload 0 (o_invT (g, d, ck, sk, xX1_run, Q) 1 0 1 (fun Q => kX1_pop_0 g (d - 1) 0 0 Q) (o_istore 4 (o_aload 0 (o_iload 1 (o_iload 4 (o_iload 3 (o_stcB (g, d, ck, sk, xX1_run, Q) xX1_joined 3 0 0 (o_stcB (g, d, ck, sk, xX1_run, Q) xX1_held 1 0 0 (o_invT (g, d, ck, sk, xX1_run, Q) 2 1 1 (fun Q => kX1_push_0 g (d - 1) 0 0 Q) (o_ret (g, d, ck, sk, xX1_run, Q))))))))))))))) (o_aload 0 (o_i (1) (o_aload 0 (o_invT (g, d, ck, sk, xX1_run, Q) 1 0 1 (fun Q => kX1_pop_0 g (d - 1) 0 0 Q) (o_isub (o_invT (g, d, ck, sk, xX1_run, Q) 2 1 1 (fun Q => kX1_push_0 g (d - 1) 0 0 Q) (o_ret (g, d, ck, sk, xX1_run, Q))))))))))) (o_aload 0 (o_iload 2 (o_iflt (o_i (0) (o_invT (g, d, ck, sk, xX1_run, Q) 2 1 1 (fun Q => kX1_push_0 g (d - 1) 0 0 Q) (o_ret (g, d, ck, sk, xX1_run, Q)))) (o_iload 2 (o_aload 0 (o_getf 1 2 (o_alen (o_icge (o_i (0) (o_invT (g, d, ck, sk, xX1_run, Q) 2 1 1 (fun Q => kX1_push_0 g (d - 1) 0 0 Q) (o_ret (g, d, ck, sk, xX1_run, Q)))) (o_aload 0 (o_getf 1 2 (o_iload 2 (o_iaload (o_invT (g, d, ck, sk, xX1_run, Q) 2 1 1 (fun Q => kX1_push_0 g (d - 1) 0 0 Q) (o_ret (g, d, ck, sk, xX1_run, Q)))))))))))))))))) (o_aload 0 (o_iload 2 (o_invT (g, d, ck, sk, xX1_run, Q) 2 1 1 (fun Q => kX1_push_0 g (d - 1) 0 0 Q) (o_ret (g, d, ck, sk, xX1_run, Q))))))
set_option maxRecDepth 20000 in
theorem tX1_run_0 {g : sk_G} {d ck sk : Nat} {Q : sk_P} : sk_S (g, d, ck, sk, xX1_run, Q) 0 (kX1_run_0 g d ck sk Q) := s_iload_n dX1_run_0 rfl (s_ifne (tgt := 12) dX1_run_1 (by decide) (s_iload_n dX1_run_12 rfl (s_iconst dX1_run_13 (s_icne (tgt := 47) dX1_run_14 (by decide) (s_iload_n dX1_run_47 rfl (s_bipush dX1_run_48 rfl (s_icne (tgt := 66) dX1_run_50 (by decide) (s_aload_n dX1_run_66 rfl (s_invT (X := xX1_pop) (ci := 1) (T := TX1) (N := 5) (K := (fun Q => kX1_pop_0 g (d - 1) 0 0 Q)) (fun _ => tX1_pop_0) rfl dX1_run_67 m_X1_pop rfl (by decide) qm_X1_94 qi_X1_pop qe_X1_pop (s_istore_n dX1_run_70 rfl (by decide : 3 < 5) (s_aload_n dX1_run_71 rfl (s_invT (X := xX1_pop) (ci := 1) (T := TX1) (N := 5) (K := (fun Q => kX1_pop_0 g (d - 1) 0 0 Q)) (fun _ => tX1_pop_0) rfl dX1_run_72 m_X1_pop rfl (by decide) qm_X1_94 qi_X1_pop qe_X1_pop (s_istore dX1_run_75 (by decide : 4 < 5) (s_aload_n dX1_run_77 rfl (s_iload_n dX1_run_78 rfl (s_iload dX1_run_79 (s_iload_n dX1_run_81 rfl (s_stcB (w' := (g, d, ck, sk, xX1_run, Q)) (ck := 0) (sk := 0) dX1_run_82 m_X1_joined qm_X1_110 qs_X1_joined rfl (s_stcB (w' := (g, d, ck, sk, xX1_run, Q)) (ck := 0) (sk := 0) dX1_run_85 m_X1_held qm_X1_114 qs_X1_held rfl (s_invT (X := xX1_push) (ci := 1) (T := TX1) (N := 5) (K := (fun Q => kX1_push_0 g (d - 1) 0 0 Q)) (fun _ => tX1_push_0) rfl dX1_run_88 m_X1_push rfl (by decide) qm_X1_106 qi_X1_push qe_X1_push (s_ret dX1_run_91 rfl)))))))))))))) (s_aload_n dX1_run_53 rfl (s_iconst dX1_run_54 (s_aload_n dX1_run_55 rfl (s_invT (X := xX1_pop) (ci := 1) (T := TX1) (N := 5) (K := (fun Q => kX1_pop_0 g (d - 1) 0 0 Q)) (fun _ => tX1_pop_0) rfl dX1_run_56 m_X1_pop rfl (by decide) qm_X1_94 qi_X1_pop qe_X1_pop (s_isub dX1_run_59 (s_invT (X := xX1_push) (ci := 1) (T := TX1) (N := 5) (K := (fun Q => kX1_push_0 g (d - 1) 0 0 Q)) (fun _ => tX1_push_0) rfl dX1_run_60 m_X1_push rfl (by decide) qm_X1_106 qi_X1_push qe_X1_push (s_goto (tgt := 91) dX1_run_63 (by decide) (s_ret dX1_run_91 rfl))))))))))) (s_aload_n dX1_run_17 rfl (s_iload_n dX1_run_18 rfl (s_iflt (tgt := 40) dX1_run_19 (by decide) (s_iconst dX1_run_40 (s_invT (X := xX1_push) (ci := 1) (T := TX1) (N := 5) (K := (fun Q => kX1_push_0 g (d - 1) 0 0 Q)) (fun _ => tX1_push_0) rfl dX1_run_41 m_X1_push rfl (by decide) qm_X1_106 qi_X1_push qe_X1_push (s_goto (tgt := 91) dX1_run_44 (by decide) (s_ret dX1_run_91 rfl)))) (s_iload_n dX1_run_22 rfl (s_aload_n dX1_run_23 rfl (s_getf (ci := 1) (j := 2) (C := RX1) (T := TX1) (N := 5) dX1_run_24 rfl (by decide) (by decide) qf_X1_17 (s_alen dX1_run_27 (s_icge (tgt := 40) dX1_run_28 (by decide) (s_iconst dX1_run_40 (s_invT (X := xX1_push) (ci := 1) (T := TX1) (N := 5) (K := (fun Q => kX1_push_0 g (d - 1) 0 0 Q)) (fun _ => tX1_push_0) rfl dX1_run_41 m_X1_push rfl (by decide) qm_X1_106 qi_X1_push qe_X1_push (s_goto (tgt := 91) dX1_run_44 (by decide) (s_ret dX1_run_91 rfl)))) (s_aload_n dX1_run_31 rfl (s_getf (ci := 1) (j := 2) (C := RX1) (T := TX1) (N := 5) dX1_run_32 rfl (by decide) (by decide) qf_X1_17 (s_iload_n dX1_run_35 rfl (s_iaload dX1_run_36 (s_goto (tgt := 41) dX1_run_37 (by decide) (s_invT (X := xX1_push) (ci := 1) (T := TX1) (N := 5) (K := (fun Q => kX1_push_0 g (d - 1) 0 0 Q)) (fun _ => tX1_push_0) rfl dX1_run_41 m_X1_push rfl (by decide) qm_X1_106 qi_X1_push qe_X1_push (s_goto (tgt := 91) dX1_run_44 (by decide) (s_ret dX1_run_91 rfl))))))))))))))))))) (s_aload_n dX1_run_4 rfl (s_iload_n dX1_run_5 rfl (s_invT (X := xX1_push) (ci := 1) (T := TX1) (N := 5) (K := (fun Q => kX1_push_0 g (d - 1) 0 0 Q)) (fun _ => tX1_push_0) rfl dX1_run_6 m_X1_push rfl (by decide) qm_X1_106 qi_X1_push qe_X1_push (s_goto (tgt := 91) dX1_run_9 (by decide) (s_ret dX1_run_91 rfl))))))
theorem dX1_joined_0 : decode cX1_joined 0 = .ok (.iload_n 0, 1) := by decide +kernel
theorem dX1_joined_1 : decode cX1_joined 1 = .ok (.tableswitch 118 2 10 #[51, 56, 61, 67, 80, 91, 102, 118, 113], 51) := by decide +kernel
theorem dX1_joined_52 : decode cX1_joined 52 = .ok (.iload_n 1, 1) := by decide +kernel
theorem dX1_joined_53 : decode cX1_joined 53 = .ok (.iload_n 2, 1) := by decide +kernel
theorem dX1_joined_54 : decode cX1_joined 54 = .ok (.iadd, 1) := by decide +kernel
theorem dX1_joined_55 : decode cX1_joined 55 = .ok (.i2l, 1) := by decide +kernel
theorem dX1_joined_56 : decode cX1_joined 56 = .ok (.lreturn, 1) := by decide +kernel
theorem dX1_joined_57 : decode cX1_joined 57 = .ok (.iload_n 1, 1) := by decide +kernel
theorem dX1_joined_58 : decode cX1_joined 58 = .ok (.iload_n 2, 1) := by decide +kernel
theorem dX1_joined_59 : decode cX1_joined 59 = .ok (.isub, 1) := by decide +kernel
theorem dX1_joined_60 : decode cX1_joined 60 = .ok (.i2l, 1) := by decide +kernel
theorem dX1_joined_61 : decode cX1_joined 61 = .ok (.lreturn, 1) := by decide +kernel
theorem dX1_joined_62 : decode cX1_joined 62 = .ok (.iload_n 1, 1) := by decide +kernel
theorem dX1_joined_63 : decode cX1_joined 63 = .ok (.i2l, 1) := by decide +kernel
theorem dX1_joined_64 : decode cX1_joined 64 = .ok (.iload_n 2, 1) := by decide +kernel
theorem dX1_joined_65 : decode cX1_joined 65 = .ok (.i2l, 1) := by decide +kernel
theorem dX1_joined_66 : decode cX1_joined 66 = .ok (.lmul, 1) := by decide +kernel
theorem dX1_joined_67 : decode cX1_joined 67 = .ok (.lreturn, 1) := by decide +kernel
theorem dX1_joined_68 : decode cX1_joined 68 = .ok (.iload_n 2, 1) := by decide +kernel
theorem dX1_joined_69 : decode cX1_joined 69 = .ok (.ifCond .ne 7, 3) := by decide +kernel
theorem dX1_joined_72 : decode cX1_joined 72 = .ok (.lconst 0, 1) := by decide +kernel
theorem dX1_joined_73 : decode cX1_joined 73 = .ok (.goto 7, 3) := by decide +kernel
theorem dX1_joined_76 : decode cX1_joined 76 = .ok (.iload_n 1, 1) := by decide +kernel
theorem dX1_joined_77 : decode cX1_joined 77 = .ok (.iload_n 2, 1) := by decide +kernel
theorem dX1_joined_78 : decode cX1_joined 78 = .ok (.idiv, 1) := by decide +kernel
theorem dX1_joined_79 : decode cX1_joined 79 = .ok (.i2l, 1) := by decide +kernel
theorem dX1_joined_80 : decode cX1_joined 80 = .ok (.lreturn, 1) := by decide +kernel
theorem dX1_joined_81 : decode cX1_joined 81 = .ok (.iload_n 1, 1) := by decide +kernel
theorem dX1_joined_82 : decode cX1_joined 82 = .ok (.iload_n 2, 1) := by decide +kernel
theorem dX1_joined_83 : decode cX1_joined 83 = .ok (.if_icmp .ne 7, 3) := by decide +kernel
theorem dX1_joined_86 : decode cX1_joined 86 = .ok (.lconst 1, 1) := by decide +kernel
theorem dX1_joined_87 : decode cX1_joined 87 = .ok (.goto 4, 3) := by decide +kernel
theorem dX1_joined_90 : decode cX1_joined 90 = .ok (.lconst 0, 1) := by decide +kernel
theorem dX1_joined_91 : decode cX1_joined 91 = .ok (.lreturn, 1) := by decide +kernel
theorem dX1_joined_92 : decode cX1_joined 92 = .ok (.iload_n 1, 1) := by decide +kernel
theorem dX1_joined_93 : decode cX1_joined 93 = .ok (.iload_n 2, 1) := by decide +kernel
theorem dX1_joined_94 : decode cX1_joined 94 = .ok (.if_icmp .ge 7, 3) := by decide +kernel
theorem dX1_joined_97 : decode cX1_joined 97 = .ok (.lconst 1, 1) := by decide +kernel
theorem dX1_joined_98 : decode cX1_joined 98 = .ok (.goto 4, 3) := by decide +kernel
theorem dX1_joined_101 : decode cX1_joined 101 = .ok (.lconst 0, 1) := by decide +kernel
theorem dX1_joined_102 : decode cX1_joined 102 = .ok (.lreturn, 1) := by decide +kernel
theorem dX1_joined_103 : decode cX1_joined 103 = .ok (.iload_n 1, 1) := by decide +kernel
theorem dX1_joined_104 : decode cX1_joined 104 = .ok (.iload_n 2, 1) := by decide +kernel
theorem dX1_joined_105 : decode cX1_joined 105 = .ok (.if_icmp .le 7, 3) := by decide +kernel
theorem dX1_joined_108 : decode cX1_joined 108 = .ok (.lconst 1, 1) := by decide +kernel
theorem dX1_joined_109 : decode cX1_joined 109 = .ok (.goto 4, 3) := by decide +kernel
theorem dX1_joined_112 : decode cX1_joined 112 = .ok (.lconst 0, 1) := by decide +kernel
theorem dX1_joined_113 : decode cX1_joined 113 = .ok (.lreturn, 1) := by decide +kernel
theorem dX1_joined_114 : decode cX1_joined 114 = .ok (.iload_n 1, 1) := by decide +kernel
theorem dX1_joined_115 : decode cX1_joined 115 = .ok (.iload_n 2, 1) := by decide +kernel
theorem dX1_joined_116 : decode cX1_joined 116 = .ok (.iand, 1) := by decide +kernel
theorem dX1_joined_117 : decode cX1_joined 117 = .ok (.i2l, 1) := by decide +kernel
theorem dX1_joined_118 : decode cX1_joined 118 = .ok (.lreturn, 1) := by decide +kernel
theorem dX1_joined_119 : decode cX1_joined 119 = .ok (.iload_n 1, 1) := by decide +kernel
theorem dX1_joined_120 : decode cX1_joined 120 = .ok (.iload_n 2, 1) := by decide +kernel
theorem dX1_joined_121 : decode cX1_joined 121 = .ok (.ior, 1) := by decide +kernel
theorem dX1_joined_122 : decode cX1_joined 122 = .ok (.i2l, 1) := by decide +kernel
theorem dX1_joined_123 : decode cX1_joined 123 = .ok (.lreturn, 1) := by decide +kernel
set_option maxRecDepth 20000 in
def kX1_joined_0 (g : sk_G) (d ck sk : Nat) (Q : sk_P) : sk_K := o_iload 0 (o_tsw (2) [o_iload 1 (o_iload 2 (o_iadd (o_i2l (o_lret (g, d, ck, sk, xX1_joined, Q))))), o_iload 1 (o_iload 2 (o_isub (o_i2l (o_lret (g, d, ck, sk, xX1_joined, Q))))), o_iload 1 (o_i2l (o_iload 2 (o_i2l (o_lmul (o_lret (g, d, ck, sk, xX1_joined, Q)))))), o_iload 2 (o_ifne (o_iload 1 (o_iload 2 (o_idiv (o_i2l (o_lret (g, d, ck, sk, xX1_joined, Q)))))) (o_l (0) (o_lret (g, d, ck, sk, xX1_joined, Q)))), o_iload 1 (o_iload 2 (o_icne (o_l (0) (o_lret (g, d, ck, sk, xX1_joined, Q))) (o_l (1) (o_lret (g, d, ck, sk, xX1_joined, Q))))), o_iload 1 (o_iload 2 (o_icge (o_l (0) (o_lret (g, d, ck, sk, xX1_joined, Q))) (o_l (1) (o_lret (g, d, ck, sk, xX1_joined, Q))))), o_iload 1 (o_iload 2 (o_icle (o_l (0) (o_lret (g, d, ck, sk, xX1_joined, Q))) (o_l (1) (o_lret (g, d, ck, sk, xX1_joined, Q))))), o_iload 1 (o_iload 2 (o_ior (o_i2l (o_lret (g, d, ck, sk, xX1_joined, Q))))), o_iload 1 (o_iload 2 (o_iand (o_i2l (o_lret (g, d, ck, sk, xX1_joined, Q)))))] (o_iload 1 (o_iload 2 (o_ior (o_i2l (o_lret (g, d, ck, sk, xX1_joined, Q)))))))
set_option maxRecDepth 20000 in
theorem tX1_joined_0 {g : sk_G} {d ck sk : Nat} {Q : sk_P} : sk_S (g, d, ck, sk, xX1_joined, Q) 0 (kX1_joined_0 g d ck sk Q) := s_iload_n dX1_joined_0 rfl (s_tsw (td := 119) (tg := [52, 57, 62, 68, 81, 92, 103, 119, 114]) (n := 9) dX1_joined_1 rfl (by decide) (by decide) (by decide) (s_iload_n dX1_joined_119 rfl (s_iload_n dX1_joined_120 rfl (s_ior dX1_joined_121 (s_i2l dX1_joined_122 (s_lret dX1_joined_123 rfl))))) (fun i off h => by
    match i, h with
    | 0, h => cases h; exact ⟨52, rfl, by decide⟩
    | 1, h => cases h; exact ⟨57, rfl, by decide⟩
    | 2, h => cases h; exact ⟨62, rfl, by decide⟩
    | 3, h => cases h; exact ⟨68, rfl, by decide⟩
    | 4, h => cases h; exact ⟨81, rfl, by decide⟩
    | 5, h => cases h; exact ⟨92, rfl, by decide⟩
    | 6, h => cases h; exact ⟨103, rfl, by decide⟩
    | 7, h => cases h; exact ⟨119, rfl, by decide⟩
    | 8, h => cases h; exact ⟨114, rfl, by decide⟩
    | i + 9, h => simp at h) (fun i a t hi ht => by
    match i, hi, ht with
    | 0, hi, ht => cases hi; cases ht; exact s_iload_n dX1_joined_52 rfl (s_iload_n dX1_joined_53 rfl (s_iadd dX1_joined_54 (s_i2l dX1_joined_55 (s_lret dX1_joined_56 rfl))))
    | 1, hi, ht => cases hi; cases ht; exact s_iload_n dX1_joined_57 rfl (s_iload_n dX1_joined_58 rfl (s_isub dX1_joined_59 (s_i2l dX1_joined_60 (s_lret dX1_joined_61 rfl))))
    | 2, hi, ht => cases hi; cases ht; exact s_iload_n dX1_joined_62 rfl (s_i2l dX1_joined_63 (s_iload_n dX1_joined_64 rfl (s_i2l dX1_joined_65 (s_lmul dX1_joined_66 (s_lret dX1_joined_67 rfl)))))
    | 3, hi, ht => cases hi; cases ht; exact s_iload_n dX1_joined_68 rfl (s_ifne (tgt := 76) dX1_joined_69 (by decide) (s_iload_n dX1_joined_76 rfl (s_iload_n dX1_joined_77 rfl (s_idiv dX1_joined_78 (s_i2l dX1_joined_79 (s_lret dX1_joined_80 rfl))))) (s_lconst dX1_joined_72 rfl (s_goto (tgt := 80) dX1_joined_73 (by decide) (s_lret dX1_joined_80 rfl))))
    | 4, hi, ht => cases hi; cases ht; exact s_iload_n dX1_joined_81 rfl (s_iload_n dX1_joined_82 rfl (s_icne (tgt := 90) dX1_joined_83 (by decide) (s_lconst dX1_joined_90 rfl (s_lret dX1_joined_91 rfl)) (s_lconst dX1_joined_86 rfl (s_goto (tgt := 91) dX1_joined_87 (by decide) (s_lret dX1_joined_91 rfl)))))
    | 5, hi, ht => cases hi; cases ht; exact s_iload_n dX1_joined_92 rfl (s_iload_n dX1_joined_93 rfl (s_icge (tgt := 101) dX1_joined_94 (by decide) (s_lconst dX1_joined_101 rfl (s_lret dX1_joined_102 rfl)) (s_lconst dX1_joined_97 rfl (s_goto (tgt := 102) dX1_joined_98 (by decide) (s_lret dX1_joined_102 rfl)))))
    | 6, hi, ht => cases hi; cases ht; exact s_iload_n dX1_joined_103 rfl (s_iload_n dX1_joined_104 rfl (s_icle (tgt := 112) dX1_joined_105 (by decide) (s_lconst dX1_joined_112 rfl (s_lret dX1_joined_113 rfl)) (s_lconst dX1_joined_108 rfl (s_goto (tgt := 113) dX1_joined_109 (by decide) (s_lret dX1_joined_113 rfl)))))
    | 7, hi, ht => cases hi; cases ht; exact s_iload_n dX1_joined_119 rfl (s_iload_n dX1_joined_120 rfl (s_ior dX1_joined_121 (s_i2l dX1_joined_122 (s_lret dX1_joined_123 rfl))))
    | 8, hi, ht => cases hi; cases ht; exact s_iload_n dX1_joined_114 rfl (s_iload_n dX1_joined_115 rfl (s_iand dX1_joined_116 (s_i2l dX1_joined_117 (s_lret dX1_joined_118 rfl))))
    | i + 9, hi, ht => simp at hi))
theorem dX1_held_0 : decode cX1_held 0 = .ok (.ldc2_w 118, 3) := by decide +kernel
theorem dX1_held_3 : decode cX1_held 3 = .ok (.ldc2_w 120, 3) := by decide +kernel
theorem dX1_held_6 : decode cX1_held 6 = .ok (.lload_n 0, 1) := by decide +kernel
theorem dX1_held_7 : decode cX1_held 7 = .ok (.invokestatic 122, 3) := by decide +kernel
theorem dX1_held_10 : decode cX1_held 10 = .ok (.invokestatic 126, 3) := by decide +kernel
theorem dX1_held_13 : decode cX1_held 13 = .ok (.l2i, 1) := by decide +kernel
theorem dX1_held_14 : decode cX1_held 14 = .ok (.ireturn, 1) := by decide +kernel
def kX1_held_0 (g : sk_G) (d ck sk : Nat) (Q : sk_P) : sk_K := o_l (-1000000) (o_l (1000000) (o_lload 0 (o_minl (g, d, ck, sk, xX1_held, Q) (o_maxl (g, d, ck, sk, xX1_held, Q) (o_l2i (o_iret (g, d, ck, sk, xX1_held, Q)))))))
theorem tX1_held_0 {g : sk_G} {d ck sk : Nat} {Q : sk_P} : sk_S (g, d, ck, sk, xX1_held, Q) 0 (kX1_held_0 g d ck sk Q) := s_ldc2 dX1_held_0 qk_X1_118 rfl (s_ldc2 dX1_held_3 qk_X1_120 rfl (s_lload_n dX1_held_6 rfl (s_minl dX1_held_7 qm_X1_122 qs_Mminl qz_J9 qc_Mminl (s_maxl dX1_held_10 qm_X1_126 qs_Mmaxl qz_J9 qc_Mmaxl (s_l2i dX1_held_13 (s_iret dX1_held_14 rfl))))))
