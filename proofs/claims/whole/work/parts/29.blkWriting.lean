theorem dX10_signAt_0 : decode cX10_signAt 0 = .ok (.iload_n 1, 1) := by decide +kernel
theorem dX10_signAt_1 : decode cX10_signAt 1 = .ok (.ifCond .lt 25, 3) := by decide +kernel
theorem dX10_signAt_4 : decode cX10_signAt 4 = .ok (.iload_n 1, 1) := by decide +kernel
theorem dX10_signAt_5 : decode cX10_signAt 5 = .ok (.aload_n 0, 1) := by decide +kernel
theorem dX10_signAt_6 : decode cX10_signAt 6 = .ok (.getfield 31, 3) := by decide +kernel
theorem dX10_signAt_9 : decode cX10_signAt 9 = .ok (.if_icmp .ge 17, 3) := by decide +kernel
theorem dX10_signAt_12 : decode cX10_signAt 12 = .ok (.iload_n 2, 1) := by decide +kernel
theorem dX10_signAt_13 : decode cX10_signAt 13 = .ok (.ifCond .lt 13, 3) := by decide +kernel
theorem dX10_signAt_16 : decode cX10_signAt 16 = .ok (.iload_n 2, 1) := by decide +kernel
theorem dX10_signAt_17 : decode cX10_signAt 17 = .ok (.aload_n 0, 1) := by decide +kernel
theorem dX10_signAt_18 : decode cX10_signAt 18 = .ok (.getfield 24, 3) := by decide +kernel
theorem dX10_signAt_21 : decode cX10_signAt 21 = .ok (.iload_n 1, 1) := by decide +kernel
theorem dX10_signAt_22 : decode cX10_signAt 22 = .ok (.iaload, 1) := by decide +kernel
theorem dX10_signAt_23 : decode cX10_signAt 23 = .ok (.if_icmp .lt 5, 3) := by decide +kernel
theorem dX10_signAt_26 : decode cX10_signAt 26 = .ok (.iconst (-1), 1) := by decide +kernel
theorem dX10_signAt_27 : decode cX10_signAt 27 = .ok (.ireturn, 1) := by decide +kernel
theorem dX10_signAt_28 : decode cX10_signAt 28 = .ok (.aload_n 0, 1) := by decide +kernel
theorem dX10_signAt_29 : decode cX10_signAt 29 = .ok (.getfield 9, 3) := by decide +kernel
theorem dX10_signAt_32 : decode cX10_signAt 32 = .ok (.aload_n 0, 1) := by decide +kernel
theorem dX10_signAt_33 : decode cX10_signAt 33 = .ok (.getfield 21, 3) := by decide +kernel
theorem dX10_signAt_36 : decode cX10_signAt 36 = .ok (.iload_n 1, 1) := by decide +kernel
theorem dX10_signAt_37 : decode cX10_signAt 37 = .ok (.iaload, 1) := by decide +kernel
theorem dX10_signAt_38 : decode cX10_signAt 38 = .ok (.iload_n 2, 1) := by decide +kernel
theorem dX10_signAt_39 : decode cX10_signAt 39 = .ok (.iadd, 1) := by decide +kernel
theorem dX10_signAt_40 : decode cX10_signAt 40 = .ok (.iaload, 1) := by decide +kernel
theorem dX10_signAt_41 : decode cX10_signAt 41 = .ok (.ireturn, 1) := by decide +kernel
set_option maxRecDepth 20000 in
def kX10_signAt_0 (g : sk_G) (d ck sk : Nat) (Q : sk_P) : sk_K := o_iload 1 (o_iflt (o_i (-1) (o_iret (g, d, ck, sk, xX10_signAt, Q))) (o_iload 1 (o_aload 0 (o_getf 10 6 (o_icge (o_i (-1) (o_iret (g, d, ck, sk, xX10_signAt, Q))) (o_iload 2 (o_iflt (o_i (-1) (o_iret (g, d, ck, sk, xX10_signAt, Q))) (o_iload 2 (o_aload 0 (o_getf 10 4 (o_iload 1 (o_iaload (o_iclt (o_aload 0 (o_getf 10 0 (o_aload 0 (o_getf 10 3 (o_iload 1 (o_iaload (o_iload 2 (o_iadd (o_iaload (o_iret (g, d, ck, sk, xX10_signAt, Q))))))))))) (o_i (-1) (o_iret (g, d, ck, sk, xX10_signAt, Q))))))))))))))))
set_option maxRecDepth 20000 in
theorem tX10_signAt_0 {g : sk_G} {d ck sk : Nat} {Q : sk_P} : sk_S (g, d, ck, sk, xX10_signAt, Q) 0 (kX10_signAt_0 g d ck sk Q) := s_iload_n dX10_signAt_0 rfl (s_iflt (tgt := 26) dX10_signAt_1 (by decide) (s_iconst dX10_signAt_26 (s_iret dX10_signAt_27 rfl)) (s_iload_n dX10_signAt_4 rfl (s_aload_n dX10_signAt_5 rfl (s_getf (ci := 10) (j := 6) (C := RX10) (T := TX10) (N := 9) dX10_signAt_6 rfl (by decide) (by decide) qf_X10_31 (s_icge (tgt := 26) dX10_signAt_9 (by decide) (s_iconst dX10_signAt_26 (s_iret dX10_signAt_27 rfl)) (s_iload_n dX10_signAt_12 rfl (s_iflt (tgt := 26) dX10_signAt_13 (by decide) (s_iconst dX10_signAt_26 (s_iret dX10_signAt_27 rfl)) (s_iload_n dX10_signAt_16 rfl (s_aload_n dX10_signAt_17 rfl (s_getf (ci := 10) (j := 4) (C := RX10) (T := TX10) (N := 9) dX10_signAt_18 rfl (by decide) (by decide) qf_X10_24 (s_iload_n dX10_signAt_21 rfl (s_iaload dX10_signAt_22 (s_iclt (tgt := 28) dX10_signAt_23 (by decide) (s_aload_n dX10_signAt_28 rfl (s_getf (ci := 10) (j := 0) (C := RX10) (T := TX10) (N := 9) dX10_signAt_29 rfl (by decide) (by decide) qf_X10_9 (s_aload_n dX10_signAt_32 rfl (s_getf (ci := 10) (j := 3) (C := RX10) (T := TX10) (N := 9) dX10_signAt_33 rfl (by decide) (by decide) qf_X10_21 (s_iload_n dX10_signAt_36 rfl (s_iaload dX10_signAt_37 (s_iload_n dX10_signAt_38 rfl (s_iadd dX10_signAt_39 (s_iaload dX10_signAt_40 (s_iret dX10_signAt_41 rfl)))))))))) (s_iconst dX10_signAt_26 (s_iret dX10_signAt_27 rfl)))))))))))))))
theorem dX10_isLetter_0 : decode cX10_isLetter 0 = .ok (.aload_n 0, 1) := by decide +kernel
theorem dX10_isLetter_1 : decode cX10_isLetter 1 = .ok (.getfield 9, 3) := by decide +kernel
theorem dX10_isLetter_4 : decode cX10_isLetter 4 = .ok (.iload_n 1, 1) := by decide +kernel
theorem dX10_isLetter_5 : decode cX10_isLetter 5 = .ok (.iaload, 1) := by decide +kernel
theorem dX10_isLetter_6 : decode cX10_isLetter 6 = .ok (.bipush 26, 2) := by decide +kernel
theorem dX10_isLetter_8 : decode cX10_isLetter 8 = .ok (.if_icmp .eq 7, 3) := by decide +kernel
theorem dX10_isLetter_11 : decode cX10_isLetter 11 = .ok (.iconst 1, 1) := by decide +kernel
theorem dX10_isLetter_12 : decode cX10_isLetter 12 = .ok (.goto 4, 3) := by decide +kernel
theorem dX10_isLetter_15 : decode cX10_isLetter 15 = .ok (.iconst 0, 1) := by decide +kernel
theorem dX10_isLetter_16 : decode cX10_isLetter 16 = .ok (.ireturn, 1) := by decide +kernel
def kX10_isLetter_0 (g : sk_G) (d ck sk : Nat) (Q : sk_P) : sk_K := o_aload 0 (o_getf 10 0 (o_iload 1 (o_iaload (o_i (26) (o_iceq (o_i (0) (o_zret (g, d, ck, sk, xX10_isLetter, Q))) (o_i (1) (o_zret (g, d, ck, sk, xX10_isLetter, Q))))))))
theorem tX10_isLetter_0 {g : sk_G} {d ck sk : Nat} {Q : sk_P} : sk_S (g, d, ck, sk, xX10_isLetter, Q) 0 (kX10_isLetter_0 g d ck sk Q) := s_aload_n dX10_isLetter_0 rfl (s_getf (ci := 10) (j := 0) (C := RX10) (T := TX10) (N := 9) dX10_isLetter_1 rfl (by decide) (by decide) qf_X10_9 (s_iload_n dX10_isLetter_4 rfl (s_iaload dX10_isLetter_5 (s_bipush dX10_isLetter_6 rfl (s_iceq (tgt := 15) dX10_isLetter_8 (by decide) (s_iconst dX10_isLetter_15 (s_zret dX10_isLetter_16 rfl)) (s_iconst dX10_isLetter_11 (s_goto (tgt := 16) dX10_isLetter_12 (by decide) (s_zret dX10_isLetter_16 rfl))))))))
theorem dX10_init_0 : decode cX10_init 0 = .ok (.aload_n 0, 1) := by decide +kernel
theorem dX10_init_1 : decode cX10_init 1 = .ok (.invokespecial 3, 3) := by decide +kernel
theorem dX10_init_4 : decode cX10_init 4 = .ok (.aload_n 0, 1) := by decide +kernel
theorem dX10_init_5 : decode cX10_init 5 = .ok (.bipush 16, 2) := by decide +kernel
theorem dX10_init_7 : decode cX10_init 7 = .ok (.newarray .int, 2) := by decide +kernel
theorem dX10_init_9 : decode cX10_init 9 = .ok (.putfield 9, 3) := by decide +kernel
theorem dX10_init_12 : decode cX10_init 12 = .ok (.aload_n 0, 1) := by decide +kernel
theorem dX10_init_13 : decode cX10_init 13 = .ok (.bipush 16, 2) := by decide +kernel
theorem dX10_init_15 : decode cX10_init 15 = .ok (.newarray .int, 2) := by decide +kernel
theorem dX10_init_17 : decode cX10_init 17 = .ok (.putfield 15, 3) := by decide +kernel
theorem dX10_init_20 : decode cX10_init 20 = .ok (.aload_n 0, 1) := by decide +kernel
theorem dX10_init_21 : decode cX10_init 21 = .ok (.bipush 16, 2) := by decide +kernel
theorem dX10_init_23 : decode cX10_init 23 = .ok (.newarray .int, 2) := by decide +kernel
theorem dX10_init_25 : decode cX10_init 25 = .ok (.putfield 18, 3) := by decide +kernel
theorem dX10_init_28 : decode cX10_init 28 = .ok (.aload_n 0, 1) := by decide +kernel
theorem dX10_init_29 : decode cX10_init 29 = .ok (.iconst 4, 1) := by decide +kernel
theorem dX10_init_30 : decode cX10_init 30 = .ok (.newarray .int, 2) := by decide +kernel
theorem dX10_init_32 : decode cX10_init 32 = .ok (.putfield 21, 3) := by decide +kernel
theorem dX10_init_35 : decode cX10_init 35 = .ok (.aload_n 0, 1) := by decide +kernel
theorem dX10_init_36 : decode cX10_init 36 = .ok (.iconst 4, 1) := by decide +kernel
theorem dX10_init_37 : decode cX10_init 37 = .ok (.newarray .int, 2) := by decide +kernel
theorem dX10_init_39 : decode cX10_init 39 = .ok (.putfield 24, 3) := by decide +kernel
theorem dX10_init_42 : decode cX10_init 42 = .ok (.return_, 1) := by decide +kernel
set_option maxRecDepth 20000 in
def kX10_init_0 (g : sk_G) (d ck sk : Nat) (Q : sk_P) : sk_K := o_aload 0 (o_obj (g, d, ck, sk, xX10_init, Q) (o_aload 0 (o_i (16) (o_newa (g, d, ck, sk, xX10_init, Q) 20 16 (sk_I (fun _ => 0)) (o_puta 10 0 (o_aload 0 (o_i (16) (o_newa (g, d, ck - 1, sk - 16, xX10_init, Q) 20 16 (sk_I (fun _ => 0)) (o_puta 10 1 (o_aload 0 (o_i (16) (o_newa (g, d, ck - 1 - 1, sk - 16 - 16, xX10_init, Q) 20 16 (sk_I (fun _ => 0)) (o_puta 10 2 (o_aload 0 (o_i (4) (o_newa (g, d, ck - 1 - 1 - 1, sk - 16 - 16 - 16, xX10_init, Q) 20 4 (sk_I (fun _ => 0)) (o_puta 10 3 (o_aload 0 (o_i (4) (o_newa (g, d, ck - 1 - 1 - 1 - 1, sk - 16 - 16 - 16 - 4, xX10_init, Q) 20 4 (sk_I (fun _ => 0)) (o_puta 10 4 (o_ret (g, d, ck - 1 - 1 - 1 - 1 - 1, sk - 16 - 16 - 16 - 4 - 4, xX10_init, Q)))))))))))))))))))))))
set_option maxRecDepth 20000 in
theorem tX10_init_0 {g : sk_G} {d ck sk : Nat} {Q : sk_P} : sk_S (g, d, ck, sk, xX10_init, Q) 0 (kX10_init_0 g d ck sk Q) := s_aload_n dX10_init_0 rfl (s_obj dX10_init_1 qm_X10_3 qi_obj qc_obj (s_aload_n dX10_init_4 rfl (s_bipush dX10_init_5 rfl (s_newI (w' := (g, d, ck - 1, sk - 16, xX10_init, Q)) (N := 16) dX10_init_7 (by decide) qr_int rfl (s_putaF (ci := 10) (j := 0) (C := RX10) (T := TX10) (N := 9) dX10_init_9 rfl (by decide) (by decide) rfl rfl rfl (Or.inr ⟨_, rfl⟩) (tyX10_ok 0 (by decide)) qf_X10_9 (s_aload_n dX10_init_12 rfl (s_bipush dX10_init_13 rfl (s_newI (w' := (g, d, ck - 1 - 1, sk - 16 - 16, xX10_init, Q)) (N := 16) dX10_init_15 (by decide) qr_int rfl (s_putaF (ci := 10) (j := 1) (C := RX10) (T := TX10) (N := 9) dX10_init_17 rfl (by decide) (by decide) rfl rfl rfl (Or.inr ⟨_, rfl⟩) (tyX10_ok 1 (by decide)) qf_X10_15 (s_aload_n dX10_init_20 rfl (s_bipush dX10_init_21 rfl (s_newI (w' := (g, d, ck - 1 - 1 - 1, sk - 16 - 16 - 16, xX10_init, Q)) (N := 16) dX10_init_23 (by decide) qr_int rfl (s_putaF (ci := 10) (j := 2) (C := RX10) (T := TX10) (N := 9) dX10_init_25 rfl (by decide) (by decide) rfl rfl rfl (Or.inr ⟨_, rfl⟩) (tyX10_ok 2 (by decide)) qf_X10_18 (s_aload_n dX10_init_28 rfl (s_iconst dX10_init_29 (s_newI (w' := (g, d, ck - 1 - 1 - 1 - 1, sk - 16 - 16 - 16 - 4, xX10_init, Q)) (N := 4) dX10_init_30 (by decide) qr_int rfl (s_putaF (ci := 10) (j := 3) (C := RX10) (T := TX10) (N := 9) dX10_init_32 rfl (by decide) (by decide) rfl rfl rfl (Or.inr ⟨_, rfl⟩) (tyX10_ok 3 (by decide)) qf_X10_21 (s_aload_n dX10_init_35 rfl (s_iconst dX10_init_36 (s_newI (w' := (g, d, ck - 1 - 1 - 1 - 1 - 1, sk - 16 - 16 - 16 - 4 - 4, xX10_init, Q)) (N := 4) dX10_init_37 (by decide) qr_int rfl (s_putaF (ci := 10) (j := 4) (C := RX10) (T := TX10) (N := 9) dX10_init_39 rfl (by decide) (by decide) rfl rfl rfl (Or.inr ⟨_, rfl⟩) (tyX10_ok 4 (by decide)) qf_X10_24 (s_ret dX10_init_42 rfl))))))))))))))))))))))
theorem dX10_read_0 : decode cX10_read 0 = .ok (.aload_n 0, 1) := by decide +kernel
theorem dX10_read_1 : decode cX10_read 1 = .ok (.iconst 0, 1) := by decide +kernel
theorem dX10_read_2 : decode cX10_read 2 = .ok (.putfield 27, 3) := by decide +kernel
theorem dX10_read_5 : decode cX10_read 5 = .ok (.aload_n 0, 1) := by decide +kernel
theorem dX10_read_6 : decode cX10_read 6 = .ok (.iconst 0, 1) := by decide +kernel
theorem dX10_read_7 : decode cX10_read 7 = .ok (.putfield 31, 3) := by decide +kernel
theorem dX10_read_10 : decode cX10_read 10 = .ok (.aload_n 0, 1) := by decide +kernel
theorem dX10_read_11 : decode cX10_read 11 = .ok (.iconst 0, 1) := by decide +kernel
theorem dX10_read_12 : decode cX10_read 12 = .ok (.putfield 34, 3) := by decide +kernel
theorem dX10_read_15 : decode cX10_read 15 = .ok (.aload_n 0, 1) := by decide +kernel
theorem dX10_read_16 : decode cX10_read 16 = .ok (.iconst 0, 1) := by decide +kernel
theorem dX10_read_17 : decode cX10_read 17 = .ok (.putfield 37, 3) := by decide +kernel
theorem dX10_read_20 : decode cX10_read 20 = .ok (.iconst 0, 1) := by decide +kernel
theorem dX10_read_21 : decode cX10_read 21 = .ok (.istore_n 2, 1) := by decide +kernel
theorem dX10_read_22 : decode cX10_read 22 = .ok (.iload_n 2, 1) := by decide +kernel
theorem dX10_read_23 : decode cX10_read 23 = .ok (.iconst 4, 1) := by decide +kernel
theorem dX10_read_24 : decode cX10_read 24 = .ok (.if_icmp .ge 62, 3) := by decide +kernel
theorem dX10_read_27 : decode cX10_read 27 = .ok (.aload_n 0, 1) := by decide +kernel
theorem dX10_read_28 : decode cX10_read 28 = .ok (.aload_n 1, 1) := by decide +kernel
theorem dX10_read_29 : decode cX10_read 29 = .ok (.iload_n 2, 1) := by decide +kernel
theorem dX10_read_30 : decode cX10_read 30 = .ok (.invokevirtual 40, 3) := by decide +kernel
theorem dX10_read_33 : decode cX10_read 33 = .ok (.ifCond .ne 5, 3) := by decide +kernel
theorem dX10_read_36 : decode cX10_read 36 = .ok (.iconst 0, 1) := by decide +kernel
theorem dX10_read_37 : decode cX10_read 37 = .ok (.ireturn, 1) := by decide +kernel
theorem dX10_read_38 : decode cX10_read 38 = .ok (.aload_n 1, 1) := by decide +kernel
theorem dX10_read_39 : decode cX10_read 39 = .ok (.invokevirtual 44, 3) := by decide +kernel
theorem dX10_read_42 : decode cX10_read 42 = .ok (.istore_n 3, 1) := by decide +kernel
theorem dX10_read_43 : decode cX10_read 43 = .ok (.iload_n 3, 1) := by decide +kernel
theorem dX10_read_44 : decode cX10_read 44 = .ok (.iconst (-1), 1) := by decide +kernel
theorem dX10_read_45 : decode cX10_read 45 = .ok (.if_icmp .ne 16, 3) := by decide +kernel
theorem dX10_read_48 : decode cX10_read 48 = .ok (.aload_n 0, 1) := by decide +kernel
theorem dX10_read_49 : decode cX10_read 49 = .ok (.getfield 37, 3) := by decide +kernel
theorem dX10_read_52 : decode cX10_read 52 = .ok (.ifCond .le 7, 3) := by decide +kernel
theorem dX10_read_55 : decode cX10_read 55 = .ok (.iconst 1, 1) := by decide +kernel
theorem dX10_read_56 : decode cX10_read 56 = .ok (.goto 4, 3) := by decide +kernel
theorem dX10_read_59 : decode cX10_read 59 = .ok (.iconst 0, 1) := by decide +kernel
theorem dX10_read_60 : decode cX10_read 60 = .ok (.ireturn, 1) := by decide +kernel
theorem dX10_read_61 : decode cX10_read 61 = .ok (.iload_n 3, 1) := by decide +kernel
theorem dX10_read_62 : decode cX10_read 62 = .ok (.bipush 47, 2) := by decide +kernel
theorem dX10_read_64 : decode cX10_read 64 = .ok (.if_icmp .ne 10, 3) := by decide +kernel
theorem dX10_read_67 : decode cX10_read 67 = .ok (.iload_n 2, 1) := by decide +kernel
theorem dX10_read_68 : decode cX10_read 68 = .ok (.iconst 1, 1) := by decide +kernel
theorem dX10_read_69 : decode cX10_read 69 = .ok (.iadd, 1) := by decide +kernel
theorem dX10_read_70 : decode cX10_read 70 = .ok (.iconst 4, 1) := by decide +kernel
theorem dX10_read_71 : decode cX10_read 71 = .ok (.if_icmp .ne 5, 3) := by decide +kernel
theorem dX10_read_74 : decode cX10_read 74 = .ok (.iconst 0, 1) := by decide +kernel
theorem dX10_read_75 : decode cX10_read 75 = .ok (.ireturn, 1) := by decide +kernel
theorem dX10_read_76 : decode cX10_read 76 = .ok (.aload_n 1, 1) := by decide +kernel
theorem dX10_read_77 : decode cX10_read 77 = .ok (.invokevirtual 50, 3) := by decide +kernel
theorem dX10_read_80 : decode cX10_read 80 = .ok (.iinc 2 1, 3) := by decide +kernel
theorem dX10_read_83 : decode cX10_read 83 = .ok (.goto (-61), 3) := by decide +kernel
theorem dX10_read_86 : decode cX10_read 86 = .ok (.iconst 0, 1) := by decide +kernel
theorem dX10_read_87 : decode cX10_read 87 = .ok (.ireturn, 1) := by decide +kernel
set_option maxRecDepth 20000 in
def kX10_read_0 (g : sk_G) (d ck sk : Nat) (Q : sk_P) : sk_K := o_aload 0 (o_i (0) (o_puti 10 5 (o_aload 0 (o_i (0) (o_puti 10 6 (o_aload 0 (o_i (0) (o_puti 10 7 (o_aload 0 (o_i (0) (o_puti 10 8 (o_i (0) (o_istore 2 (sk_B (g, d, ck, sk, xX10_read, Q) 22))))))))))))))
set_option maxRecDepth 20000 in
theorem tX10_read_0 {g : sk_G} {d ck sk : Nat} {Q : sk_P} : sk_S (g, d, ck, sk, xX10_read, Q) 0 (kX10_read_0 g d ck sk Q) := s_aload_n dX10_read_0 rfl (s_iconst dX10_read_1 (s_puti (ci := 10) (j := 5) (C := RX10) (T := TX10) (N := 9) dX10_read_2 rfl (by decide) (by decide) rfl (tyX10_ok 5 (by decide)) qf_X10_27 (s_aload_n dX10_read_5 rfl (s_iconst dX10_read_6 (s_puti (ci := 10) (j := 6) (C := RX10) (T := TX10) (N := 9) dX10_read_7 rfl (by decide) (by decide) rfl (tyX10_ok 6 (by decide)) qf_X10_31 (s_aload_n dX10_read_10 rfl (s_iconst dX10_read_11 (s_puti (ci := 10) (j := 7) (C := RX10) (T := TX10) (N := 9) dX10_read_12 rfl (by decide) (by decide) rfl (tyX10_ok 7 (by decide)) qf_X10_34 (s_aload_n dX10_read_15 rfl (s_iconst dX10_read_16 (s_puti (ci := 10) (j := 8) (C := RX10) (T := TX10) (N := 9) dX10_read_17 rfl (by decide) (by decide) rfl (tyX10_ok 8 (by decide)) qf_X10_37 (s_iconst dX10_read_20 (s_istore_n dX10_read_21 rfl (by decide : 2 < 4) (sk_id))))))))))))))
set_option maxRecDepth 20000 in
def kX10_read_22 (g : sk_G) (d ck sk : Nat) (Q : sk_P) : sk_K := o_iload 2 (o_i (4) (o_icge (o_i (0) (o_zret (g, d, ck, sk, xX10_read, Q))) (o_aload 0 (o_aload 1 (o_iload 2 (o_invB (g, d, ck, sk, xX10_read, Q) xX10_readLine 2 10 0 0 (o_ifne (o_aload 1 (o_invB (g, d, ck, sk, xX10_read, Q) xX9_peek 0 9 0 0 (o_istore 3 (o_iload 3 (o_i (-1) (o_icne (o_iload 3 (o_i (47) (o_icne (o_i (0) (o_zret (g, d, ck, sk, xX10_read, Q))) (o_iload 2 (o_i (1) (o_iadd (o_i (4) (o_icne (o_aload 1 (o_invT (g, d, ck, sk, xX10_read, Q) 1 0 9 (fun Q => kX9_step_0 g (d - 1) 0 0 Q) (o_iinc 2 (1) (sk_B (g, d, ck, sk, xX10_read, Q) 22)))) (o_i (0) (o_zret (g, d, ck, sk, xX10_read, Q))))))))))) (o_aload 0 (o_getf 10 8 (o_ifle (o_i (0) (o_zret (g, d, ck, sk, xX10_read, Q))) (o_i (1) (o_zret (g, d, ck, sk, xX10_read, Q)))))))))))) (o_i (0) (o_zret (g, d, ck, sk, xX10_read, Q))))))))))
set_option maxRecDepth 20000 in
theorem tX10_read_22 {g : sk_G} {d ck sk : Nat} {Q : sk_P} : sk_S (g, d, ck, sk, xX10_read, Q) 22 (kX10_read_22 g d ck sk Q) := s_iload_n dX10_read_22 rfl (s_iconst dX10_read_23 (s_icge (tgt := 86) dX10_read_24 (by decide) (s_iconst dX10_read_86 (s_zret dX10_read_87 rfl)) (s_aload_n dX10_read_27 rfl (s_aload_n dX10_read_28 rfl (s_iload_n dX10_read_29 rfl (s_invB (w' := (g, d, ck, sk, xX10_read, Q)) (ci := 10) (ck := 0) (sk := 0) (T := TX10) (N := 9) dX10_read_30 m_X10_readLine rfl (by decide) qm_X10_40 qi_X10_readLine qe_X10_readLine rfl (s_ifne (tgt := 38) dX10_read_33 (by decide) (s_aload_n dX10_read_38 rfl (s_invB (w' := (g, d, ck, sk, xX10_read, Q)) (ci := 9) (ck := 0) (sk := 0) (T := TX9) (N := 3) dX10_read_39 m_X9_peek rfl (by decide) qm_X10_44 qi_X9_peek qe_X9_peek rfl (s_istore_n dX10_read_42 rfl (by decide : 3 < 4) (s_iload_n dX10_read_43 rfl (s_iconst dX10_read_44 (s_icne (tgt := 61) dX10_read_45 (by decide) (s_iload_n dX10_read_61 rfl (s_bipush dX10_read_62 rfl (s_icne (tgt := 74) dX10_read_64 (by decide) (s_iconst dX10_read_74 (s_zret dX10_read_75 rfl)) (s_iload_n dX10_read_67 rfl (s_iconst dX10_read_68 (s_iadd dX10_read_69 (s_iconst dX10_read_70 (s_icne (tgt := 76) dX10_read_71 (by decide) (s_aload_n dX10_read_76 rfl (s_invT (X := xX9_step) (ci := 9) (T := TX9) (N := 3) (K := (fun Q => kX9_step_0 g (d - 1) 0 0 Q)) (fun _ => tX9_step_0) rfl dX10_read_77 m_X9_step rfl (by decide) qm_X10_50 qi_X9_step qe_X9_step (s_iinc dX10_read_80 (by decide : 2 < 4) (s_goto (tgt := 22) dX10_read_83 (by decide) (sk_id))))) (s_iconst dX10_read_74 (s_zret dX10_read_75 rfl)))))))))) (s_aload_n dX10_read_48 rfl (s_getf (ci := 10) (j := 8) (C := RX10) (T := TX10) (N := 9) dX10_read_49 rfl (by decide) (by decide) qf_X10_37 (s_ifle (tgt := 59) dX10_read_52 (by decide) (s_iconst dX10_read_59 (s_zret dX10_read_60 rfl)) (s_iconst dX10_read_55 (s_goto (tgt := 60) dX10_read_56 (by decide) (s_zret dX10_read_60 rfl)))))))))))) (s_iconst dX10_read_36 (s_zret dX10_read_37 rfl)))))))))
theorem dX10_readLine_0 : decode cX10_readLine 0 = .ok (.aload_n 0, 1) := by decide +kernel
theorem dX10_readLine_1 : decode cX10_readLine 1 = .ok (.getfield 21, 3) := by decide +kernel
theorem dX10_readLine_4 : decode cX10_readLine 4 = .ok (.iload_n 2, 1) := by decide +kernel
theorem dX10_readLine_5 : decode cX10_readLine 5 = .ok (.aload_n 0, 1) := by decide +kernel
theorem dX10_readLine_6 : decode cX10_readLine 6 = .ok (.getfield 27, 3) := by decide +kernel
theorem dX10_readLine_9 : decode cX10_readLine 9 = .ok (.iastore, 1) := by decide +kernel
theorem dX10_readLine_10 : decode cX10_readLine 10 = .ok (.aload_n 0, 1) := by decide +kernel
theorem dX10_readLine_11 : decode cX10_readLine 11 = .ok (.getfield 24, 3) := by decide +kernel
theorem dX10_readLine_14 : decode cX10_readLine 14 = .ok (.iload_n 2, 1) := by decide +kernel
theorem dX10_readLine_15 : decode cX10_readLine 15 = .ok (.iconst 0, 1) := by decide +kernel
theorem dX10_readLine_16 : decode cX10_readLine 16 = .ok (.iastore, 1) := by decide +kernel
theorem dX10_readLine_17 : decode cX10_readLine 17 = .ok (.aload_n 0, 1) := by decide +kernel
theorem dX10_readLine_18 : decode cX10_readLine 18 = .ok (.iload_n 2, 1) := by decide +kernel
theorem dX10_readLine_19 : decode cX10_readLine 19 = .ok (.iconst 1, 1) := by decide +kernel
theorem dX10_readLine_20 : decode cX10_readLine 20 = .ok (.iadd, 1) := by decide +kernel
theorem dX10_readLine_21 : decode cX10_readLine 21 = .ok (.putfield 31, 3) := by decide +kernel
theorem dX10_readLine_24 : decode cX10_readLine 24 = .ok (.iconst 0, 1) := by decide +kernel
theorem dX10_readLine_25 : decode cX10_readLine 25 = .ok (.istore_n 3, 1) := by decide +kernel
theorem dX10_readLine_26 : decode cX10_readLine 26 = .ok (.iload_n 3, 1) := by decide +kernel
theorem dX10_readLine_27 : decode cX10_readLine 27 = .ok (.bipush 8, 2) := by decide +kernel
theorem dX10_readLine_29 : decode cX10_readLine 29 = .ok (.if_icmp .gt 167, 3) := by decide +kernel
theorem dX10_readLine_32 : decode cX10_readLine 32 = .ok (.aload_n 1, 1) := by decide +kernel
theorem dX10_readLine_33 : decode cX10_readLine 33 = .ok (.invokevirtual 44, 3) := by decide +kernel
theorem dX10_readLine_36 : decode cX10_readLine 36 = .ok (.istore 4, 2) := by decide +kernel
theorem dX10_readLine_38 : decode cX10_readLine 38 = .ok (.iload 4, 2) := by decide +kernel
theorem dX10_readLine_40 : decode cX10_readLine 40 = .ok (.bipush 46, 2) := by decide +kernel
theorem dX10_readLine_42 : decode cX10_readLine 42 = .ok (.if_icmp .eq 27, 3) := by decide +kernel
theorem dX10_readLine_45 : decode cX10_readLine 45 = .ok (.iload 4, 2) := by decide +kernel
theorem dX10_readLine_47 : decode cX10_readLine 47 = .ok (.bipush 97, 2) := by decide +kernel
theorem dX10_readLine_49 : decode cX10_readLine 49 = .ok (.if_icmp .lt 10, 3) := by decide +kernel
theorem dX10_readLine_52 : decode cX10_readLine 52 = .ok (.iload 4, 2) := by decide +kernel
theorem dX10_readLine_54 : decode cX10_readLine 54 = .ok (.bipush 122, 2) := by decide +kernel
theorem dX10_readLine_56 : decode cX10_readLine 56 = .ok (.if_icmp .le 13, 3) := by decide +kernel
theorem dX10_readLine_59 : decode cX10_readLine 59 = .ok (.iload_n 3, 1) := by decide +kernel
theorem dX10_readLine_60 : decode cX10_readLine 60 = .ok (.ifCond .le 7, 3) := by decide +kernel
theorem dX10_readLine_63 : decode cX10_readLine 63 = .ok (.iconst 1, 1) := by decide +kernel
theorem dX10_readLine_64 : decode cX10_readLine 64 = .ok (.goto 4, 3) := by decide +kernel
theorem dX10_readLine_67 : decode cX10_readLine 67 = .ok (.iconst 0, 1) := by decide +kernel
theorem dX10_readLine_68 : decode cX10_readLine 68 = .ok (.ireturn, 1) := by decide +kernel
theorem dX10_readLine_69 : decode cX10_readLine 69 = .ok (.iload_n 3, 1) := by decide +kernel
theorem dX10_readLine_70 : decode cX10_readLine 70 = .ok (.bipush 8, 2) := by decide +kernel
theorem dX10_readLine_72 : decode cX10_readLine 72 = .ok (.if_icmp .eq 12, 3) := by decide +kernel
theorem dX10_readLine_75 : decode cX10_readLine 75 = .ok (.aload_n 0, 1) := by decide +kernel
theorem dX10_readLine_76 : decode cX10_readLine 76 = .ok (.getfield 27, 3) := by decide +kernel
theorem dX10_readLine_79 : decode cX10_readLine 79 = .ok (.bipush 16, 2) := by decide +kernel
theorem dX10_readLine_81 : decode cX10_readLine 81 = .ok (.if_icmp .lt 5, 3) := by decide +kernel
theorem dX10_readLine_84 : decode cX10_readLine 84 = .ok (.iconst 0, 1) := by decide +kernel
theorem dX10_readLine_85 : decode cX10_readLine 85 = .ok (.ireturn, 1) := by decide +kernel
theorem dX10_readLine_86 : decode cX10_readLine 86 = .ok (.aload_n 0, 1) := by decide +kernel
theorem dX10_readLine_87 : decode cX10_readLine 87 = .ok (.getfield 9, 3) := by decide +kernel
theorem dX10_readLine_90 : decode cX10_readLine 90 = .ok (.aload_n 0, 1) := by decide +kernel
theorem dX10_readLine_91 : decode cX10_readLine 91 = .ok (.getfield 27, 3) := by decide +kernel
theorem dX10_readLine_94 : decode cX10_readLine 94 = .ok (.iload 4, 2) := by decide +kernel
theorem dX10_readLine_96 : decode cX10_readLine 96 = .ok (.bipush 46, 2) := by decide +kernel
theorem dX10_readLine_98 : decode cX10_readLine 98 = .ok (.if_icmp .ne 8, 3) := by decide +kernel
theorem dX10_readLine_101 : decode cX10_readLine 101 = .ok (.bipush 26, 2) := by decide +kernel
theorem dX10_readLine_103 : decode cX10_readLine 103 = .ok (.goto 8, 3) := by decide +kernel
theorem dX10_readLine_106 : decode cX10_readLine 106 = .ok (.iload 4, 2) := by decide +kernel
theorem dX10_readLine_108 : decode cX10_readLine 108 = .ok (.bipush 97, 2) := by decide +kernel
theorem dX10_readLine_110 : decode cX10_readLine 110 = .ok (.isub, 1) := by decide +kernel
theorem dX10_readLine_111 : decode cX10_readLine 111 = .ok (.iastore, 1) := by decide +kernel
theorem dX10_readLine_112 : decode cX10_readLine 112 = .ok (.aload_n 0, 1) := by decide +kernel
theorem dX10_readLine_113 : decode cX10_readLine 113 = .ok (.getfield 15, 3) := by decide +kernel
theorem dX10_readLine_116 : decode cX10_readLine 116 = .ok (.aload_n 0, 1) := by decide +kernel
theorem dX10_readLine_117 : decode cX10_readLine 117 = .ok (.getfield 27, 3) := by decide +kernel
theorem dX10_readLine_120 : decode cX10_readLine 120 = .ok (.iload_n 2, 1) := by decide +kernel
theorem dX10_readLine_121 : decode cX10_readLine 121 = .ok (.iastore, 1) := by decide +kernel
theorem dX10_readLine_122 : decode cX10_readLine 122 = .ok (.aload_n 0, 1) := by decide +kernel
theorem dX10_readLine_123 : decode cX10_readLine 123 = .ok (.getfield 18, 3) := by decide +kernel
theorem dX10_readLine_126 : decode cX10_readLine 126 = .ok (.aload_n 0, 1) := by decide +kernel
theorem dX10_readLine_127 : decode cX10_readLine 127 = .ok (.getfield 27, 3) := by decide +kernel
theorem dX10_readLine_130 : decode cX10_readLine 130 = .ok (.iload_n 3, 1) := by decide +kernel
theorem dX10_readLine_131 : decode cX10_readLine 131 = .ok (.iastore, 1) := by decide +kernel
theorem dX10_readLine_132 : decode cX10_readLine 132 = .ok (.aload_n 0, 1) := by decide +kernel
theorem dX10_readLine_133 : decode cX10_readLine 133 = .ok (.dup, 1) := by decide +kernel
theorem dX10_readLine_134 : decode cX10_readLine 134 = .ok (.getfield 27, 3) := by decide +kernel
theorem dX10_readLine_137 : decode cX10_readLine 137 = .ok (.iconst 1, 1) := by decide +kernel
theorem dX10_readLine_138 : decode cX10_readLine 138 = .ok (.iadd, 1) := by decide +kernel
theorem dX10_readLine_139 : decode cX10_readLine 139 = .ok (.putfield 27, 3) := by decide +kernel
theorem dX10_readLine_142 : decode cX10_readLine 142 = .ok (.aload_n 0, 1) := by decide +kernel
theorem dX10_readLine_143 : decode cX10_readLine 143 = .ok (.dup, 1) := by decide +kernel
theorem dX10_readLine_144 : decode cX10_readLine 144 = .ok (.getfield 37, 3) := by decide +kernel
theorem dX10_readLine_147 : decode cX10_readLine 147 = .ok (.iload 4, 2) := by decide +kernel
theorem dX10_readLine_149 : decode cX10_readLine 149 = .ok (.bipush 46, 2) := by decide +kernel
theorem dX10_readLine_151 : decode cX10_readLine 151 = .ok (.if_icmp .ne 7, 3) := by decide +kernel
theorem dX10_readLine_154 : decode cX10_readLine 154 = .ok (.iconst 0, 1) := by decide +kernel
theorem dX10_readLine_155 : decode cX10_readLine 155 = .ok (.goto 4, 3) := by decide +kernel
theorem dX10_readLine_158 : decode cX10_readLine 158 = .ok (.iconst 1, 1) := by decide +kernel
theorem dX10_readLine_159 : decode cX10_readLine 159 = .ok (.iadd, 1) := by decide +kernel
theorem dX10_readLine_160 : decode cX10_readLine 160 = .ok (.putfield 37, 3) := by decide +kernel
theorem dX10_readLine_163 : decode cX10_readLine 163 = .ok (.aload_n 0, 1) := by decide +kernel
theorem dX10_readLine_164 : decode cX10_readLine 164 = .ok (.getfield 24, 3) := by decide +kernel
theorem dX10_readLine_167 : decode cX10_readLine 167 = .ok (.iload_n 2, 1) := by decide +kernel
theorem dX10_readLine_168 : decode cX10_readLine 168 = .ok (.iload_n 3, 1) := by decide +kernel
theorem dX10_readLine_169 : decode cX10_readLine 169 = .ok (.iconst 1, 1) := by decide +kernel
theorem dX10_readLine_170 : decode cX10_readLine 170 = .ok (.iadd, 1) := by decide +kernel
theorem dX10_readLine_171 : decode cX10_readLine 171 = .ok (.iastore, 1) := by decide +kernel
theorem dX10_readLine_172 : decode cX10_readLine 172 = .ok (.aload_n 0, 1) := by decide +kernel
theorem dX10_readLine_173 : decode cX10_readLine 173 = .ok (.aload_n 0, 1) := by decide +kernel
theorem dX10_readLine_174 : decode cX10_readLine 174 = .ok (.getfield 34, 3) := by decide +kernel
theorem dX10_readLine_177 : decode cX10_readLine 177 = .ok (.iload_n 3, 1) := by decide +kernel
theorem dX10_readLine_178 : decode cX10_readLine 178 = .ok (.iconst 1, 1) := by decide +kernel
theorem dX10_readLine_179 : decode cX10_readLine 179 = .ok (.iadd, 1) := by decide +kernel
theorem dX10_readLine_180 : decode cX10_readLine 180 = .ok (.invokestatic 53, 3) := by decide +kernel
theorem dX10_readLine_183 : decode cX10_readLine 183 = .ok (.putfield 34, 3) := by decide +kernel
theorem dX10_readLine_186 : decode cX10_readLine 186 = .ok (.aload_n 1, 1) := by decide +kernel
theorem dX10_readLine_187 : decode cX10_readLine 187 = .ok (.invokevirtual 50, 3) := by decide +kernel
theorem dX10_readLine_190 : decode cX10_readLine 190 = .ok (.iinc 3 1, 3) := by decide +kernel
theorem dX10_readLine_193 : decode cX10_readLine 193 = .ok (.goto (-167), 3) := by decide +kernel
theorem dX10_readLine_196 : decode cX10_readLine 196 = .ok (.iconst 0, 1) := by decide +kernel
theorem dX10_readLine_197 : decode cX10_readLine 197 = .ok (.ireturn, 1) := by decide +kernel
set_option maxRecDepth 20000 in
def kX10_readLine_0 (g : sk_G) (d ck sk : Nat) (Q : sk_P) : sk_K := o_aload 0 (o_getf 10 3 (o_iload 2 (o_aload 0 (o_getf 10 5 (o_iastore (o_aload 0 (o_getf 10 4 (o_iload 2 (o_i (0) (o_iastore (o_aload 0 (o_iload 2 (o_i (1) (o_iadd (o_puti 10 6 (o_i (0) (o_istore 3 (sk_B (g, d, ck, sk, xX10_readLine, Q) 26))))))))))))))))))
set_option maxRecDepth 20000 in
theorem tX10_readLine_0 {g : sk_G} {d ck sk : Nat} {Q : sk_P} : sk_S (g, d, ck, sk, xX10_readLine, Q) 0 (kX10_readLine_0 g d ck sk Q) := s_aload_n dX10_readLine_0 rfl (s_getf (ci := 10) (j := 3) (C := RX10) (T := TX10) (N := 9) dX10_readLine_1 rfl (by decide) (by decide) qf_X10_21 (s_iload_n dX10_readLine_4 rfl (s_aload_n dX10_readLine_5 rfl (s_getf (ci := 10) (j := 5) (C := RX10) (T := TX10) (N := 9) dX10_readLine_6 rfl (by decide) (by decide) qf_X10_27 (s_iastore dX10_readLine_9 (s_aload_n dX10_readLine_10 rfl (s_getf (ci := 10) (j := 4) (C := RX10) (T := TX10) (N := 9) dX10_readLine_11 rfl (by decide) (by decide) qf_X10_24 (s_iload_n dX10_readLine_14 rfl (s_iconst dX10_readLine_15 (s_iastore dX10_readLine_16 (s_aload_n dX10_readLine_17 rfl (s_iload_n dX10_readLine_18 rfl (s_iconst dX10_readLine_19 (s_iadd dX10_readLine_20 (s_puti (ci := 10) (j := 6) (C := RX10) (T := TX10) (N := 9) dX10_readLine_21 rfl (by decide) (by decide) rfl (tyX10_ok 6 (by decide)) qf_X10_31 (s_iconst dX10_readLine_24 (s_istore_n dX10_readLine_25 rfl (by decide : 3 < 5) (sk_id))))))))))))))))))
set_option maxRecDepth 20000 in
def kX10_readLine_26 (g : sk_G) (d ck sk : Nat) (Q : sk_P) : sk_K := o_iload 3 (o_i (8) (o_icgt (o_i (0) (o_zret (g, d, ck, sk, xX10_readLine, Q))) (o_aload 1 (o_invB (g, d, ck, sk, xX10_readLine, Q) xX9_peek 0 9 0 0 (o_istore 4 (o_iload 4 (o_i (46) (o_iceq (sk_B (g, d, ck, sk, xX10_readLine, Q) 69) (o_iload 4 (o_i (97) (o_iclt (sk_B (g, d, ck, sk, xX10_readLine, Q) 59) (o_iload 4 (o_i (122) (o_icle (sk_B (g, d, ck, sk, xX10_readLine, Q) 69) (sk_B (g, d, ck, sk, xX10_readLine, Q) 59)))))))))))))))
set_option maxRecDepth 20000 in
theorem tX10_readLine_26 {g : sk_G} {d ck sk : Nat} {Q : sk_P} : sk_S (g, d, ck, sk, xX10_readLine, Q) 26 (kX10_readLine_26 g d ck sk Q) := s_iload_n dX10_readLine_26 rfl (s_bipush dX10_readLine_27 rfl (s_icgt (tgt := 196) dX10_readLine_29 (by decide) (s_iconst dX10_readLine_196 (s_zret dX10_readLine_197 rfl)) (s_aload_n dX10_readLine_32 rfl (s_invB (w' := (g, d, ck, sk, xX10_readLine, Q)) (ci := 9) (ck := 0) (sk := 0) (T := TX9) (N := 3) dX10_readLine_33 m_X9_peek rfl (by decide) qm_X10_44 qi_X9_peek qe_X9_peek rfl (s_istore dX10_readLine_36 (by decide : 4 < 5) (s_iload dX10_readLine_38 (s_bipush dX10_readLine_40 rfl (s_iceq (tgt := 69) dX10_readLine_42 (by decide) (sk_id) (s_iload dX10_readLine_45 (s_bipush dX10_readLine_47 rfl (s_iclt (tgt := 59) dX10_readLine_49 (by decide) (sk_id) (s_iload dX10_readLine_52 (s_bipush dX10_readLine_54 rfl (s_icle (tgt := 69) dX10_readLine_56 (by decide) (sk_id) (sk_id)))))))))))))))
def kX10_readLine_59 (g : sk_G) (d ck sk : Nat) (Q : sk_P) : sk_K := o_iload 3 (o_ifle (o_i (0) (o_zret (g, d, ck, sk, xX10_readLine, Q))) (o_i (1) (o_zret (g, d, ck, sk, xX10_readLine, Q))))
theorem tX10_readLine_59 {g : sk_G} {d ck sk : Nat} {Q : sk_P} : sk_S (g, d, ck, sk, xX10_readLine, Q) 59 (kX10_readLine_59 g d ck sk Q) := s_iload_n dX10_readLine_59 rfl (s_ifle (tgt := 67) dX10_readLine_60 (by decide) (s_iconst dX10_readLine_67 (s_zret dX10_readLine_68 rfl)) (s_iconst dX10_readLine_63 (s_goto (tgt := 68) dX10_readLine_64 (by decide) (s_zret dX10_readLine_68 rfl))))
set_option maxRecDepth 20000 in
def kX10_readLine_69 (g : sk_G) (d ck sk : Nat) (Q : sk_P) : sk_K := o_iload 3 (o_i (8) (o_iceq (o_i (0) (o_zret (g, d, ck, sk, xX10_readLine, Q))) (o_aload 0 (o_getf 10 5 (o_i (16) (o_iclt (o_aload 0 (o_getf 10 0 (o_aload 0 (o_getf 10 5 (o_iload 4 (o_i (46) (o_icne (o_iload 4 (o_i (97) (o_isub (sk_B (g, d, ck, sk, xX10_readLine, Q) 111)))) (o_i (26) (sk_B (g, d, ck, sk, xX10_readLine, Q) 111))))))))) (o_i (0) (o_zret (g, d, ck, sk, xX10_readLine, Q)))))))))
set_option maxRecDepth 20000 in
theorem tX10_readLine_69 {g : sk_G} {d ck sk : Nat} {Q : sk_P} : sk_S (g, d, ck, sk, xX10_readLine, Q) 69 (kX10_readLine_69 g d ck sk Q) := s_iload_n dX10_readLine_69 rfl (s_bipush dX10_readLine_70 rfl (s_iceq (tgt := 84) dX10_readLine_72 (by decide) (s_iconst dX10_readLine_84 (s_zret dX10_readLine_85 rfl)) (s_aload_n dX10_readLine_75 rfl (s_getf (ci := 10) (j := 5) (C := RX10) (T := TX10) (N := 9) dX10_readLine_76 rfl (by decide) (by decide) qf_X10_27 (s_bipush dX10_readLine_79 rfl (s_iclt (tgt := 86) dX10_readLine_81 (by decide) (s_aload_n dX10_readLine_86 rfl (s_getf (ci := 10) (j := 0) (C := RX10) (T := TX10) (N := 9) dX10_readLine_87 rfl (by decide) (by decide) qf_X10_9 (s_aload_n dX10_readLine_90 rfl (s_getf (ci := 10) (j := 5) (C := RX10) (T := TX10) (N := 9) dX10_readLine_91 rfl (by decide) (by decide) qf_X10_27 (s_iload dX10_readLine_94 (s_bipush dX10_readLine_96 rfl (s_icne (tgt := 106) dX10_readLine_98 (by decide) (s_iload dX10_readLine_106 (s_bipush dX10_readLine_108 rfl (s_isub dX10_readLine_110 (sk_id)))) (s_bipush dX10_readLine_101 rfl (s_goto (tgt := 111) dX10_readLine_103 (by decide) (sk_id)))))))))) (s_iconst dX10_readLine_84 (s_zret dX10_readLine_85 rfl))))))))
set_option maxRecDepth 20000 in
def kX10_readLine_111 (g : sk_G) (d ck sk : Nat) (Q : sk_P) : sk_K := o_iastore (o_aload 0 (o_getf 10 1 (o_aload 0 (o_getf 10 5 (o_iload 2 (o_iastore (o_aload 0 (o_getf 10 2 (o_aload 0 (o_getf 10 5 (o_iload 3 (o_iastore (o_aload 0 (o_dup (o_getf 10 5 (o_i (1) (o_iadd (o_puti 10 5 (o_aload 0 (o_dup (o_getf 10 8 (o_iload 4 (o_i (46) (o_icne (o_i (1) (sk_B (g, d, ck, sk, xX10_readLine, Q) 159)) (o_i (0) (sk_B (g, d, ck, sk, xX10_readLine, Q) 159))))))))))))))))))))))))))
set_option maxRecDepth 20000 in
theorem tX10_readLine_111 {g : sk_G} {d ck sk : Nat} {Q : sk_P} : sk_S (g, d, ck, sk, xX10_readLine, Q) 111 (kX10_readLine_111 g d ck sk Q) := s_iastore dX10_readLine_111 (s_aload_n dX10_readLine_112 rfl (s_getf (ci := 10) (j := 1) (C := RX10) (T := TX10) (N := 9) dX10_readLine_113 rfl (by decide) (by decide) qf_X10_15 (s_aload_n dX10_readLine_116 rfl (s_getf (ci := 10) (j := 5) (C := RX10) (T := TX10) (N := 9) dX10_readLine_117 rfl (by decide) (by decide) qf_X10_27 (s_iload_n dX10_readLine_120 rfl (s_iastore dX10_readLine_121 (s_aload_n dX10_readLine_122 rfl (s_getf (ci := 10) (j := 2) (C := RX10) (T := TX10) (N := 9) dX10_readLine_123 rfl (by decide) (by decide) qf_X10_18 (s_aload_n dX10_readLine_126 rfl (s_getf (ci := 10) (j := 5) (C := RX10) (T := TX10) (N := 9) dX10_readLine_127 rfl (by decide) (by decide) qf_X10_27 (s_iload_n dX10_readLine_130 rfl (s_iastore dX10_readLine_131 (s_aload_n dX10_readLine_132 rfl (s_dup dX10_readLine_133 (s_getf (ci := 10) (j := 5) (C := RX10) (T := TX10) (N := 9) dX10_readLine_134 rfl (by decide) (by decide) qf_X10_27 (s_iconst dX10_readLine_137 (s_iadd dX10_readLine_138 (s_puti (ci := 10) (j := 5) (C := RX10) (T := TX10) (N := 9) dX10_readLine_139 rfl (by decide) (by decide) rfl (tyX10_ok 5 (by decide)) qf_X10_27 (s_aload_n dX10_readLine_142 rfl (s_dup dX10_readLine_143 (s_getf (ci := 10) (j := 8) (C := RX10) (T := TX10) (N := 9) dX10_readLine_144 rfl (by decide) (by decide) qf_X10_37 (s_iload dX10_readLine_147 (s_bipush dX10_readLine_149 rfl (s_icne (tgt := 158) dX10_readLine_151 (by decide) (s_iconst dX10_readLine_158 (sk_id)) (s_iconst dX10_readLine_154 (s_goto (tgt := 159) dX10_readLine_155 (by decide) (sk_id)))))))))))))))))))))))))))
set_option maxRecDepth 20000 in
def kX10_readLine_159 (g : sk_G) (d ck sk : Nat) (Q : sk_P) : sk_K := o_iadd (o_puti 10 8 (o_aload 0 (o_getf 10 4 (o_iload 2 (o_iload 3 (o_i (1) (o_iadd (o_iastore (o_aload 0 (o_aload 0 (o_getf 10 7 (o_iload 3 (o_i (1) (o_iadd (o_max (g, d, ck, sk, xX10_readLine, Q) (o_puti 10 7 (o_aload 1 (o_invT (g, d, ck, sk, xX10_readLine, Q) 1 0 9 (fun Q => kX9_step_0 g (d - 1) 0 0 Q) (o_iinc 3 (1) (sk_B (g, d, ck, sk, xX10_readLine, Q) 26))))))))))))))))))))
set_option maxRecDepth 20000 in
theorem tX10_readLine_159 {g : sk_G} {d ck sk : Nat} {Q : sk_P} : sk_S (g, d, ck, sk, xX10_readLine, Q) 159 (kX10_readLine_159 g d ck sk Q) := s_iadd dX10_readLine_159 (s_puti (ci := 10) (j := 8) (C := RX10) (T := TX10) (N := 9) dX10_readLine_160 rfl (by decide) (by decide) rfl (tyX10_ok 8 (by decide)) qf_X10_37 (s_aload_n dX10_readLine_163 rfl (s_getf (ci := 10) (j := 4) (C := RX10) (T := TX10) (N := 9) dX10_readLine_164 rfl (by decide) (by decide) qf_X10_24 (s_iload_n dX10_readLine_167 rfl (s_iload_n dX10_readLine_168 rfl (s_iconst dX10_readLine_169 (s_iadd dX10_readLine_170 (s_iastore dX10_readLine_171 (s_aload_n dX10_readLine_172 rfl (s_aload_n dX10_readLine_173 rfl (s_getf (ci := 10) (j := 7) (C := RX10) (T := TX10) (N := 9) dX10_readLine_174 rfl (by decide) (by decide) qf_X10_34 (s_iload_n dX10_readLine_177 rfl (s_iconst dX10_readLine_178 (s_iadd dX10_readLine_179 (s_max dX10_readLine_180 qm_X10_53 qs_Mmax qz_J9 qc_Mmax (s_puti (ci := 10) (j := 7) (C := RX10) (T := TX10) (N := 9) dX10_readLine_183 rfl (by decide) (by decide) rfl (tyX10_ok 7 (by decide)) qf_X10_34 (s_aload_n dX10_readLine_186 rfl (s_invT (X := xX9_step) (ci := 9) (T := TX9) (N := 3) (K := (fun Q => kX9_step_0 g (d - 1) 0 0 Q)) (fun _ => tX9_step_0) rfl dX10_readLine_187 m_X9_step rfl (by decide) qm_X10_50 qi_X9_step qe_X9_step (s_iinc dX10_readLine_190 (by decide : 3 < 5) (s_goto (tgt := 26) dX10_readLine_193 (by decide) (sk_id)))))))))))))))))))))
theorem dX10_meeting_0 : decode cX10_meeting 0 = .ok (.aload_n 0, 1) := by decide +kernel
theorem dX10_meeting_1 : decode cX10_meeting 1 = .ok (.getfield 24, 3) := by decide +kernel
theorem dX10_meeting_4 : decode cX10_meeting 4 = .ok (.iconst 0, 1) := by decide +kernel
theorem dX10_meeting_5 : decode cX10_meeting 5 = .ok (.iaload, 1) := by decide +kernel
theorem dX10_meeting_6 : decode cX10_meeting 6 = .ok (.aload_n 1, 1) := by decide +kernel
theorem dX10_meeting_7 : decode cX10_meeting 7 = .ok (.getfield 24, 3) := by decide +kernel
theorem dX10_meeting_10 : decode cX10_meeting 10 = .ok (.iconst 0, 1) := by decide +kernel
theorem dX10_meeting_11 : decode cX10_meeting 11 = .ok (.iaload, 1) := by decide +kernel
theorem dX10_meeting_12 : decode cX10_meeting 12 = .ok (.invokestatic 59, 3) := by decide +kernel
theorem dX10_meeting_15 : decode cX10_meeting 15 = .ok (.istore_n 2, 1) := by decide +kernel
theorem dX10_meeting_16 : decode cX10_meeting 16 = .ok (.iload_n 2, 1) := by decide +kernel
theorem dX10_meeting_17 : decode cX10_meeting 17 = .ok (.ifCond .le 20, 3) := by decide +kernel
theorem dX10_meeting_20 : decode cX10_meeting 20 = .ok (.aload_n 0, 1) := by decide +kernel
theorem dX10_meeting_21 : decode cX10_meeting 21 = .ok (.aload_n 1, 1) := by decide +kernel
theorem dX10_meeting_22 : decode cX10_meeting 22 = .ok (.iload_n 2, 1) := by decide +kernel
theorem dX10_meeting_23 : decode cX10_meeting 23 = .ok (.invokevirtual 62, 3) := by decide +kernel
theorem dX10_meeting_26 : decode cX10_meeting 26 = .ok (.ifCond .eq 5, 3) := by decide +kernel
theorem dX10_meeting_29 : decode cX10_meeting 29 = .ok (.iload_n 2, 1) := by decide +kernel
theorem dX10_meeting_30 : decode cX10_meeting 30 = .ok (.ireturn, 1) := by decide +kernel
theorem dX10_meeting_31 : decode cX10_meeting 31 = .ok (.iinc 2 (-1), 3) := by decide +kernel
theorem dX10_meeting_34 : decode cX10_meeting 34 = .ok (.goto (-18), 3) := by decide +kernel
theorem dX10_meeting_37 : decode cX10_meeting 37 = .ok (.iconst 0, 1) := by decide +kernel
theorem dX10_meeting_38 : decode cX10_meeting 38 = .ok (.ireturn, 1) := by decide +kernel
def kX10_meeting_0 (g : sk_G) (d ck sk : Nat) (Q : sk_P) : sk_K := o_aload 0 (o_getf 10 4 (o_i (0) (o_iaload (o_aload 1 (o_getf 10 4 (o_i (0) (o_iaload (o_min (g, d, ck, sk, xX10_meeting, Q) (o_istore 2 (sk_B (g, d, ck, sk, xX10_meeting, Q) 16))))))))))
theorem tX10_meeting_0 {g : sk_G} {d ck sk : Nat} {Q : sk_P} : sk_S (g, d, ck, sk, xX10_meeting, Q) 0 (kX10_meeting_0 g d ck sk Q) := s_aload_n dX10_meeting_0 rfl (s_getf (ci := 10) (j := 4) (C := RX10) (T := TX10) (N := 9) dX10_meeting_1 rfl (by decide) (by decide) qf_X10_24 (s_iconst dX10_meeting_4 (s_iaload dX10_meeting_5 (s_aload_n dX10_meeting_6 rfl (s_getf (ci := 10) (j := 4) (C := RX10) (T := TX10) (N := 9) dX10_meeting_7 rfl (by decide) (by decide) qf_X10_24 (s_iconst dX10_meeting_10 (s_iaload dX10_meeting_11 (s_min dX10_meeting_12 qm_X10_59 qs_Mmin qz_J9 qc_Mmin (s_istore_n dX10_meeting_15 rfl (by decide : 2 < 3) (sk_id))))))))))
def kX10_meeting_16 (g : sk_G) (d ck sk : Nat) (Q : sk_P) : sk_K := o_iload 2 (o_ifle (o_i (0) (o_iret (g, d, ck, sk, xX10_meeting, Q))) (o_aload 0 (o_aload 1 (o_iload 2 (o_invB (g, d, ck, sk, xX10_meeting, Q) xX10_endsAsBegins 2 10 0 0 (o_ifeq (o_iinc 2 (-1) (sk_B (g, d, ck, sk, xX10_meeting, Q) 16)) (o_iload 2 (o_iret (g, d, ck, sk, xX10_meeting, Q)))))))))
theorem tX10_meeting_16 {g : sk_G} {d ck sk : Nat} {Q : sk_P} : sk_S (g, d, ck, sk, xX10_meeting, Q) 16 (kX10_meeting_16 g d ck sk Q) := s_iload_n dX10_meeting_16 rfl (s_ifle (tgt := 37) dX10_meeting_17 (by decide) (s_iconst dX10_meeting_37 (s_iret dX10_meeting_38 rfl)) (s_aload_n dX10_meeting_20 rfl (s_aload_n dX10_meeting_21 rfl (s_iload_n dX10_meeting_22 rfl (s_invB (w' := (g, d, ck, sk, xX10_meeting, Q)) (ci := 10) (ck := 0) (sk := 0) (T := TX10) (N := 9) dX10_meeting_23 m_X10_endsAsBegins rfl (by decide) qm_X10_62 qi_X10_endsAsBegins qe_X10_endsAsBegins rfl (s_ifeq (tgt := 31) dX10_meeting_26 (by decide) (s_iinc dX10_meeting_31 (by decide : 2 < 3) (s_goto (tgt := 16) dX10_meeting_34 (by decide) (sk_id))) (s_iload_n dX10_meeting_29 rfl (s_iret dX10_meeting_30 rfl))))))))
theorem dX10_endsAsBegins_0 : decode cX10_endsAsBegins 0 = .ok (.iconst 0, 1) := by decide +kernel
theorem dX10_endsAsBegins_1 : decode cX10_endsAsBegins 1 = .ok (.istore_n 3, 1) := by decide +kernel
theorem dX10_endsAsBegins_2 : decode cX10_endsAsBegins 2 = .ok (.iload_n 3, 1) := by decide +kernel
theorem dX10_endsAsBegins_3 : decode cX10_endsAsBegins 3 = .ok (.iload_n 2, 1) := by decide +kernel
theorem dX10_endsAsBegins_4 : decode cX10_endsAsBegins 4 = .ok (.if_icmp .ge 35, 3) := by decide +kernel
theorem dX10_endsAsBegins_7 : decode cX10_endsAsBegins 7 = .ok (.aload_n 0, 1) := by decide +kernel
theorem dX10_endsAsBegins_8 : decode cX10_endsAsBegins 8 = .ok (.iconst 0, 1) := by decide +kernel
theorem dX10_endsAsBegins_9 : decode cX10_endsAsBegins 9 = .ok (.aload_n 0, 1) := by decide +kernel
theorem dX10_endsAsBegins_10 : decode cX10_endsAsBegins 10 = .ok (.getfield 24, 3) := by decide +kernel
theorem dX10_endsAsBegins_13 : decode cX10_endsAsBegins 13 = .ok (.iconst 0, 1) := by decide +kernel
theorem dX10_endsAsBegins_14 : decode cX10_endsAsBegins 14 = .ok (.iaload, 1) := by decide +kernel
theorem dX10_endsAsBegins_15 : decode cX10_endsAsBegins 15 = .ok (.iload_n 2, 1) := by decide +kernel
theorem dX10_endsAsBegins_16 : decode cX10_endsAsBegins 16 = .ok (.isub, 1) := by decide +kernel
theorem dX10_endsAsBegins_17 : decode cX10_endsAsBegins 17 = .ok (.iload_n 3, 1) := by decide +kernel
theorem dX10_endsAsBegins_18 : decode cX10_endsAsBegins 18 = .ok (.iadd, 1) := by decide +kernel
theorem dX10_endsAsBegins_19 : decode cX10_endsAsBegins 19 = .ok (.invokevirtual 66, 3) := by decide +kernel
theorem dX10_endsAsBegins_22 : decode cX10_endsAsBegins 22 = .ok (.aload_n 1, 1) := by decide +kernel
theorem dX10_endsAsBegins_23 : decode cX10_endsAsBegins 23 = .ok (.iconst 0, 1) := by decide +kernel
theorem dX10_endsAsBegins_24 : decode cX10_endsAsBegins 24 = .ok (.iload_n 3, 1) := by decide +kernel
theorem dX10_endsAsBegins_25 : decode cX10_endsAsBegins 25 = .ok (.invokevirtual 66, 3) := by decide +kernel
theorem dX10_endsAsBegins_28 : decode cX10_endsAsBegins 28 = .ok (.if_icmp .eq 5, 3) := by decide +kernel
theorem dX10_endsAsBegins_31 : decode cX10_endsAsBegins 31 = .ok (.iconst 0, 1) := by decide +kernel
theorem dX10_endsAsBegins_32 : decode cX10_endsAsBegins 32 = .ok (.ireturn, 1) := by decide +kernel
theorem dX10_endsAsBegins_33 : decode cX10_endsAsBegins 33 = .ok (.iinc 3 1, 3) := by decide +kernel
theorem dX10_endsAsBegins_36 : decode cX10_endsAsBegins 36 = .ok (.goto (-34), 3) := by decide +kernel
theorem dX10_endsAsBegins_39 : decode cX10_endsAsBegins 39 = .ok (.iconst 1, 1) := by decide +kernel
theorem dX10_endsAsBegins_40 : decode cX10_endsAsBegins 40 = .ok (.ireturn, 1) := by decide +kernel
def kX10_endsAsBegins_0 (g : sk_G) (d ck sk : Nat) (Q : sk_P) : sk_K := o_i (0) (o_istore 3 (sk_B (g, d, ck, sk, xX10_endsAsBegins, Q) 2))
theorem tX10_endsAsBegins_0 {g : sk_G} {d ck sk : Nat} {Q : sk_P} : sk_S (g, d, ck, sk, xX10_endsAsBegins, Q) 0 (kX10_endsAsBegins_0 g d ck sk Q) := s_iconst dX10_endsAsBegins_0 (s_istore_n dX10_endsAsBegins_1 rfl (by decide : 3 < 4) (sk_id))
set_option maxRecDepth 20000 in
def kX10_endsAsBegins_2 (g : sk_G) (d ck sk : Nat) (Q : sk_P) : sk_K := o_iload 3 (o_iload 2 (o_icge (o_i (1) (o_zret (g, d, ck, sk, xX10_endsAsBegins, Q))) (o_aload 0 (o_i (0) (o_aload 0 (o_getf 10 4 (o_i (0) (o_iaload (o_iload 2 (o_isub (o_iload 3 (o_iadd (o_invT (g, d, ck, sk, xX10_endsAsBegins, Q) 3 2 10 (fun Q => kX10_signAt_0 g (d - 1) 0 0 Q) (o_aload 1 (o_i (0) (o_iload 3 (o_invT (g, d, ck, sk, xX10_endsAsBegins, Q) 3 2 10 (fun Q => kX10_signAt_0 g (d - 1) 0 0 Q) (o_iceq (o_iinc 3 (1) (sk_B (g, d, ck, sk, xX10_endsAsBegins, Q) 2)) (o_i (0) (o_zret (g, d, ck, sk, xX10_endsAsBegins, Q)))))))))))))))))))))
set_option maxRecDepth 20000 in
theorem tX10_endsAsBegins_2 {g : sk_G} {d ck sk : Nat} {Q : sk_P} : sk_S (g, d, ck, sk, xX10_endsAsBegins, Q) 2 (kX10_endsAsBegins_2 g d ck sk Q) := s_iload_n dX10_endsAsBegins_2 rfl (s_iload_n dX10_endsAsBegins_3 rfl (s_icge (tgt := 39) dX10_endsAsBegins_4 (by decide) (s_iconst dX10_endsAsBegins_39 (s_zret dX10_endsAsBegins_40 rfl)) (s_aload_n dX10_endsAsBegins_7 rfl (s_iconst dX10_endsAsBegins_8 (s_aload_n dX10_endsAsBegins_9 rfl (s_getf (ci := 10) (j := 4) (C := RX10) (T := TX10) (N := 9) dX10_endsAsBegins_10 rfl (by decide) (by decide) qf_X10_24 (s_iconst dX10_endsAsBegins_13 (s_iaload dX10_endsAsBegins_14 (s_iload_n dX10_endsAsBegins_15 rfl (s_isub dX10_endsAsBegins_16 (s_iload_n dX10_endsAsBegins_17 rfl (s_iadd dX10_endsAsBegins_18 (s_invT (X := xX10_signAt) (ci := 10) (T := TX10) (N := 9) (K := (fun Q => kX10_signAt_0 g (d - 1) 0 0 Q)) (fun _ => tX10_signAt_0) rfl dX10_endsAsBegins_19 m_X10_signAt rfl (by decide) qm_X10_66 qi_X10_signAt qe_X10_signAt (s_aload_n dX10_endsAsBegins_22 rfl (s_iconst dX10_endsAsBegins_23 (s_iload_n dX10_endsAsBegins_24 rfl (s_invT (X := xX10_signAt) (ci := 10) (T := TX10) (N := 9) (K := (fun Q => kX10_signAt_0 g (d - 1) 0 0 Q)) (fun _ => tX10_signAt_0) rfl dX10_endsAsBegins_25 m_X10_signAt rfl (by decide) qm_X10_66 qi_X10_signAt qe_X10_signAt (s_iceq (tgt := 33) dX10_endsAsBegins_28 (by decide) (s_iinc dX10_endsAsBegins_33 (by decide : 3 < 4) (s_goto (tgt := 2) dX10_endsAsBegins_36 (by decide) (sk_id))) (s_iconst dX10_endsAsBegins_31 (s_zret dX10_endsAsBegins_32 rfl))))))))))))))))))))
