theorem dX4_init_0 : decode cX4_init 0 = .ok (.aload_n 0, 1) := by decide +kernel
theorem dX4_init_1 : decode cX4_init 1 = .ok (.invokespecial 3, 3) := by decide +kernel
theorem dX4_init_4 : decode cX4_init 4 = .ok (.aload_n 0, 1) := by decide +kernel
theorem dX4_init_5 : decode cX4_init 5 = .ok (.bipush 10, 2) := by decide +kernel
theorem dX4_init_7 : decode cX4_init 7 = .ok (.newarray .int, 2) := by decide +kernel
theorem dX4_init_9 : decode cX4_init 9 = .ok (.putfield 9, 3) := by decide +kernel
theorem dX4_init_12 : decode cX4_init 12 = .ok (.aload_n 0, 1) := by decide +kernel
theorem dX4_init_13 : decode cX4_init 13 = .ok (.bipush 10, 2) := by decide +kernel
theorem dX4_init_15 : decode cX4_init 15 = .ok (.newarray .int, 2) := by decide +kernel
theorem dX4_init_17 : decode cX4_init 17 = .ok (.putfield 15, 3) := by decide +kernel
theorem dX4_init_20 : decode cX4_init 20 = .ok (.aload_n 0, 1) := by decide +kernel
theorem dX4_init_21 : decode cX4_init 21 = .ok (.bipush 10, 2) := by decide +kernel
theorem dX4_init_23 : decode cX4_init 23 = .ok (.newarray .boolean, 2) := by decide +kernel
theorem dX4_init_25 : decode cX4_init 25 = .ok (.putfield 18, 3) := by decide +kernel
theorem dX4_init_28 : decode cX4_init 28 = .ok (.return_, 1) := by decide +kernel
set_option maxRecDepth 20000 in
def kX4_init_0 (g : sk_G) (d ck sk : Nat) (Q : sk_P) : sk_K := o_aload 0 (o_obj (g, d, ck, sk, xX4_init, Q) (o_aload 0 (o_i (10) (o_newa (g, d, ck, sk, xX4_init, Q) 20 10 (sk_I (fun _ => 0)) (o_puta 4 0 (o_aload 0 (o_i (10) (o_newa (g, d, ck - 1, sk - 10, xX4_init, Q) 20 10 (sk_I (fun _ => 0)) (o_puta 4 1 (o_aload 0 (o_i (10) (o_newa (g, d, ck - 1 - 1, sk - 10 - 10, xX4_init, Q) 21 10 (sk_I (fun _ => 0)) (o_puta 4 2 (o_ret (g, d, ck - 1 - 1 - 1, sk - 10 - 10 - 10, xX4_init, Q)))))))))))))))
set_option maxRecDepth 20000 in
theorem tX4_init_0 {g : sk_G} {d ck sk : Nat} {Q : sk_P} : sk_S (g, d, ck, sk, xX4_init, Q) 0 (kX4_init_0 g d ck sk Q) := s_aload_n dX4_init_0 rfl (s_obj dX4_init_1 qm_X4_3 qi_obj qc_obj (s_aload_n dX4_init_4 rfl (s_bipush dX4_init_5 rfl (s_newI (w' := (g, d, ck - 1, sk - 10, xX4_init, Q)) (N := 10) dX4_init_7 (by decide) qr_int rfl (s_putaF (ci := 4) (j := 0) (C := RX4) (T := TX4) (N := 4) dX4_init_9 rfl (by decide) (by decide) rfl rfl rfl (Or.inr ⟨_, rfl⟩) (tyX4_ok 0 (by decide)) qf_X4_9 (s_aload_n dX4_init_12 rfl (s_bipush dX4_init_13 rfl (s_newI (w' := (g, d, ck - 1 - 1, sk - 10 - 10, xX4_init, Q)) (N := 10) dX4_init_15 (by decide) qr_int rfl (s_putaF (ci := 4) (j := 1) (C := RX4) (T := TX4) (N := 4) dX4_init_17 rfl (by decide) (by decide) rfl rfl rfl (Or.inr ⟨_, rfl⟩) (tyX4_ok 1 (by decide)) qf_X4_15 (s_aload_n dX4_init_20 rfl (s_bipush dX4_init_21 rfl (s_newZ (w' := (g, d, ck - 1 - 1 - 1, sk - 10 - 10 - 10, xX4_init, Q)) (N := 10) dX4_init_23 (by decide) qr_boolean rfl (s_putaF (ci := 4) (j := 2) (C := RX4) (T := TX4) (N := 4) dX4_init_25 rfl (by decide) (by decide) rfl rfl rfl (Or.inr ⟨_, rfl⟩) (tyX4_ok 2 (by decide)) qf_X4_18 (s_ret dX4_init_28 rfl))))))))))))))
theorem dX4_add_0 : decode cX4_add 0 = .ok (.aload_n 0, 1) := by decide +kernel
theorem dX4_add_1 : decode cX4_add 1 = .ok (.getfield 22, 3) := by decide +kernel
theorem dX4_add_4 : decode cX4_add 4 = .ok (.bipush 10, 2) := by decide +kernel
theorem dX4_add_6 : decode cX4_add 6 = .ok (.if_icmp .lt 5, 3) := by decide +kernel
theorem dX4_add_9 : decode cX4_add 9 = .ok (.iconst (-1), 1) := by decide +kernel
theorem dX4_add_10 : decode cX4_add 10 = .ok (.ireturn, 1) := by decide +kernel
theorem dX4_add_11 : decode cX4_add 11 = .ok (.aload_n 0, 1) := by decide +kernel
theorem dX4_add_12 : decode cX4_add 12 = .ok (.getfield 9, 3) := by decide +kernel
theorem dX4_add_15 : decode cX4_add 15 = .ok (.aload_n 0, 1) := by decide +kernel
theorem dX4_add_16 : decode cX4_add 16 = .ok (.getfield 22, 3) := by decide +kernel
theorem dX4_add_19 : decode cX4_add 19 = .ok (.iload_n 1, 1) := by decide +kernel
theorem dX4_add_20 : decode cX4_add 20 = .ok (.iastore, 1) := by decide +kernel
theorem dX4_add_21 : decode cX4_add 21 = .ok (.aload_n 0, 1) := by decide +kernel
theorem dX4_add_22 : decode cX4_add 22 = .ok (.getfield 15, 3) := by decide +kernel
theorem dX4_add_25 : decode cX4_add 25 = .ok (.aload_n 0, 1) := by decide +kernel
theorem dX4_add_26 : decode cX4_add 26 = .ok (.getfield 22, 3) := by decide +kernel
theorem dX4_add_29 : decode cX4_add 29 = .ok (.iload_n 2, 1) := by decide +kernel
theorem dX4_add_30 : decode cX4_add 30 = .ok (.iastore, 1) := by decide +kernel
theorem dX4_add_31 : decode cX4_add 31 = .ok (.aload_n 0, 1) := by decide +kernel
theorem dX4_add_32 : decode cX4_add 32 = .ok (.getfield 18, 3) := by decide +kernel
theorem dX4_add_35 : decode cX4_add 35 = .ok (.aload_n 0, 1) := by decide +kernel
theorem dX4_add_36 : decode cX4_add 36 = .ok (.getfield 22, 3) := by decide +kernel
theorem dX4_add_39 : decode cX4_add 39 = .ok (.iload_n 3, 1) := by decide +kernel
theorem dX4_add_40 : decode cX4_add 40 = .ok (.bastore, 1) := by decide +kernel
theorem dX4_add_41 : decode cX4_add 41 = .ok (.aload_n 0, 1) := by decide +kernel
theorem dX4_add_42 : decode cX4_add 42 = .ok (.dup, 1) := by decide +kernel
theorem dX4_add_43 : decode cX4_add 43 = .ok (.getfield 22, 3) := by decide +kernel
theorem dX4_add_46 : decode cX4_add 46 = .ok (.iconst 1, 1) := by decide +kernel
theorem dX4_add_47 : decode cX4_add 47 = .ok (.iadd, 1) := by decide +kernel
theorem dX4_add_48 : decode cX4_add 48 = .ok (.putfield 22, 3) := by decide +kernel
theorem dX4_add_51 : decode cX4_add 51 = .ok (.aload_n 0, 1) := by decide +kernel
theorem dX4_add_52 : decode cX4_add 52 = .ok (.getfield 22, 3) := by decide +kernel
theorem dX4_add_55 : decode cX4_add 55 = .ok (.ireturn, 1) := by decide +kernel
set_option maxRecDepth 20000 in
def kX4_add_0 (g : sk_G) (d ck sk : Nat) (Q : sk_P) : sk_K := o_aload 0 (o_getf 4 3 (o_i (10) (o_iclt (o_aload 0 (o_getf 4 0 (o_aload 0 (o_getf 4 3 (o_iload 1 (o_iastore (o_aload 0 (o_getf 4 1 (o_aload 0 (o_getf 4 3 (o_iload 2 (o_iastore (o_aload 0 (o_getf 4 2 (o_aload 0 (o_getf 4 3 (o_iload 3 (o_bastore (o_aload 0 (o_dup (o_getf 4 3 (o_i (1) (o_iadd (o_puti 4 3 (o_aload 0 (o_getf 4 3 (o_iret (g, d, ck, sk, xX4_add, Q)))))))))))))))))))))))))))) (o_i (-1) (o_iret (g, d, ck, sk, xX4_add, Q))))))
set_option maxRecDepth 20000 in
theorem tX4_add_0 {g : sk_G} {d ck sk : Nat} {Q : sk_P} : sk_S (g, d, ck, sk, xX4_add, Q) 0 (kX4_add_0 g d ck sk Q) := s_aload_n dX4_add_0 rfl (s_getf (ci := 4) (j := 3) (C := RX4) (T := TX4) (N := 4) dX4_add_1 rfl (by decide) (by decide) qf_X4_22 (s_bipush dX4_add_4 rfl (s_iclt (tgt := 11) dX4_add_6 (by decide) (s_aload_n dX4_add_11 rfl (s_getf (ci := 4) (j := 0) (C := RX4) (T := TX4) (N := 4) dX4_add_12 rfl (by decide) (by decide) qf_X4_9 (s_aload_n dX4_add_15 rfl (s_getf (ci := 4) (j := 3) (C := RX4) (T := TX4) (N := 4) dX4_add_16 rfl (by decide) (by decide) qf_X4_22 (s_iload_n dX4_add_19 rfl (s_iastore dX4_add_20 (s_aload_n dX4_add_21 rfl (s_getf (ci := 4) (j := 1) (C := RX4) (T := TX4) (N := 4) dX4_add_22 rfl (by decide) (by decide) qf_X4_15 (s_aload_n dX4_add_25 rfl (s_getf (ci := 4) (j := 3) (C := RX4) (T := TX4) (N := 4) dX4_add_26 rfl (by decide) (by decide) qf_X4_22 (s_iload_n dX4_add_29 rfl (s_iastore dX4_add_30 (s_aload_n dX4_add_31 rfl (s_getf (ci := 4) (j := 2) (C := RX4) (T := TX4) (N := 4) dX4_add_32 rfl (by decide) (by decide) qf_X4_18 (s_aload_n dX4_add_35 rfl (s_getf (ci := 4) (j := 3) (C := RX4) (T := TX4) (N := 4) dX4_add_36 rfl (by decide) (by decide) qf_X4_22 (s_iload_n dX4_add_39 rfl (s_bastore dX4_add_40 (s_aload_n dX4_add_41 rfl (s_dup dX4_add_42 (s_getf (ci := 4) (j := 3) (C := RX4) (T := TX4) (N := 4) dX4_add_43 rfl (by decide) (by decide) qf_X4_22 (s_iconst dX4_add_46 (s_iadd dX4_add_47 (s_puti (ci := 4) (j := 3) (C := RX4) (T := TX4) (N := 4) dX4_add_48 rfl (by decide) (by decide) rfl (tyX4_ok 3 (by decide)) qf_X4_22 (s_aload_n dX4_add_51 rfl (s_getf (ci := 4) (j := 3) (C := RX4) (T := TX4) (N := 4) dX4_add_52 rfl (by decide) (by decide) qf_X4_22 (s_iret dX4_add_55 rfl))))))))))))))))))))))))))) (s_iconst dX4_add_9 (s_iret dX4_add_10 rfl)))))
