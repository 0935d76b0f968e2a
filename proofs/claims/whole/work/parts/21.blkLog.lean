theorem dX2_init_0 : decode cX2_init 0 = .ok (.aload_n 0, 1) := by decide +kernel
theorem dX2_init_1 : decode cX2_init 1 = .ok (.invokespecial 3, 3) := by decide +kernel
theorem dX2_init_4 : decode cX2_init 4 = .ok (.aload_n 0, 1) := by decide +kernel
theorem dX2_init_5 : decode cX2_init 5 = .ok (.sipush 300, 3) := by decide +kernel
theorem dX2_init_8 : decode cX2_init 8 = .ok (.newarray .int, 2) := by decide +kernel
theorem dX2_init_10 : decode cX2_init 10 = .ok (.putfield 11, 3) := by decide +kernel
theorem dX2_init_13 : decode cX2_init 13 = .ok (.return_, 1) := by decide +kernel
set_option maxRecDepth 20000 in
def kX2_init_0 (g : sk_G) (d ck sk : Nat) (Q : sk_P) : sk_K := o_aload 0 (o_obj (g, d, ck, sk, xX2_init, Q) (o_aload 0 (o_i (300) (o_newa (g, d, ck, sk, xX2_init, Q) 20 300 (sk_I (fun _ => 0)) (o_puta 2 0 (o_ret (g, d, ck - 1, sk - 300, xX2_init, Q)))))))
set_option maxRecDepth 20000 in
theorem tX2_init_0 {g : sk_G} {d ck sk : Nat} {Q : sk_P} : sk_S (g, d, ck, sk, xX2_init, Q) 0 (kX2_init_0 g d ck sk Q) := s_aload_n dX2_init_0 rfl (s_obj dX2_init_1 qm_X2_3 qi_obj qc_obj (s_aload_n dX2_init_4 rfl (s_sipush dX2_init_5 rfl (s_newI (w' := (g, d, ck - 1, sk - 300, xX2_init, Q)) (N := 300) dX2_init_8 (by decide) qr_int rfl (s_putaF (ci := 2) (j := 0) (C := RX2) (T := TX2) (N := 1) dX2_init_10 rfl (by decide) (by decide) rfl rfl rfl (Or.inr ⟨_, rfl⟩) (tyX2_ok 0 (by decide)) qf_X2_11 (s_ret dX2_init_13 rfl))))))
theorem dX2_put_0 : decode cX2_put 0 = .ok (.iload_n 1, 1) := by decide +kernel
theorem dX2_put_1 : decode cX2_put 1 = .ok (.bipush 100, 2) := by decide +kernel
theorem dX2_put_3 : decode cX2_put 3 = .ok (.invokestatic 15, 3) := by decide +kernel
theorem dX2_put_6 : decode cX2_put 6 = .ok (.iconst 3, 1) := by decide +kernel
theorem dX2_put_7 : decode cX2_put 7 = .ok (.imul, 1) := by decide +kernel
theorem dX2_put_8 : decode cX2_put 8 = .ok (.istore 5, 2) := by decide +kernel
theorem dX2_put_10 : decode cX2_put 10 = .ok (.aload_n 0, 1) := by decide +kernel
theorem dX2_put_11 : decode cX2_put 11 = .ok (.getfield 11, 3) := by decide +kernel
theorem dX2_put_14 : decode cX2_put 14 = .ok (.iload 5, 2) := by decide +kernel
theorem dX2_put_16 : decode cX2_put 16 = .ok (.iload_n 2, 1) := by decide +kernel
theorem dX2_put_17 : decode cX2_put 17 = .ok (.iastore, 1) := by decide +kernel
theorem dX2_put_18 : decode cX2_put 18 = .ok (.aload_n 0, 1) := by decide +kernel
theorem dX2_put_19 : decode cX2_put 19 = .ok (.getfield 11, 3) := by decide +kernel
theorem dX2_put_22 : decode cX2_put 22 = .ok (.iload 5, 2) := by decide +kernel
theorem dX2_put_24 : decode cX2_put 24 = .ok (.iconst 1, 1) := by decide +kernel
theorem dX2_put_25 : decode cX2_put 25 = .ok (.iadd, 1) := by decide +kernel
theorem dX2_put_26 : decode cX2_put 26 = .ok (.iload_n 3, 1) := by decide +kernel
theorem dX2_put_27 : decode cX2_put 27 = .ok (.iastore, 1) := by decide +kernel
theorem dX2_put_28 : decode cX2_put 28 = .ok (.aload_n 0, 1) := by decide +kernel
theorem dX2_put_29 : decode cX2_put 29 = .ok (.getfield 11, 3) := by decide +kernel
theorem dX2_put_32 : decode cX2_put 32 = .ok (.iload 5, 2) := by decide +kernel
theorem dX2_put_34 : decode cX2_put 34 = .ok (.iconst 2, 1) := by decide +kernel
theorem dX2_put_35 : decode cX2_put 35 = .ok (.iadd, 1) := by decide +kernel
theorem dX2_put_36 : decode cX2_put 36 = .ok (.iload 4, 2) := by decide +kernel
theorem dX2_put_38 : decode cX2_put 38 = .ok (.iastore, 1) := by decide +kernel
theorem dX2_put_39 : decode cX2_put 39 = .ok (.return_, 1) := by decide +kernel
set_option maxRecDepth 20000 in
def kX2_put_0 (g : sk_G) (d ck sk : Nat) (Q : sk_P) : sk_K := o_iload 1 (o_i (100) (o_stcB (g, d, ck, sk, xX2_put, Q) xJ9_floorMod_7cf53 2 0 0 (o_i (3) (o_imul (o_istore 5 (o_aload 0 (o_getf 2 0 (o_iload 5 (o_iload 2 (o_iastore (o_aload 0 (o_getf 2 0 (o_iload 5 (o_i (1) (o_iadd (o_iload 3 (o_iastore (o_aload 0 (o_getf 2 0 (o_iload 5 (o_i (2) (o_iadd (o_iload 4 (o_iastore (o_ret (g, d, ck, sk, xX2_put, Q))))))))))))))))))))))))))
set_option maxRecDepth 20000 in
theorem tX2_put_0 {g : sk_G} {d ck sk : Nat} {Q : sk_P} : sk_S (g, d, ck, sk, xX2_put, Q) 0 (kX2_put_0 g d ck sk Q) := s_iload_n dX2_put_0 rfl (s_bipush dX2_put_1 rfl (s_stcB (w' := (g, d, ck, sk, xX2_put, Q)) (ck := 0) (sk := 0) dX2_put_3 m_J9_floorMod_7cf53 qm_X2_15 qs_J9_floorMod_7cf53 rfl (s_iconst dX2_put_6 (s_imul dX2_put_7 (s_istore dX2_put_8 (by decide : 5 < 6) (s_aload_n dX2_put_10 rfl (s_getf (ci := 2) (j := 0) (C := RX2) (T := TX2) (N := 1) dX2_put_11 rfl (by decide) (by decide) qf_X2_11 (s_iload dX2_put_14 (s_iload_n dX2_put_16 rfl (s_iastore dX2_put_17 (s_aload_n dX2_put_18 rfl (s_getf (ci := 2) (j := 0) (C := RX2) (T := TX2) (N := 1) dX2_put_19 rfl (by decide) (by decide) qf_X2_11 (s_iload dX2_put_22 (s_iconst dX2_put_24 (s_iadd dX2_put_25 (s_iload_n dX2_put_26 rfl (s_iastore dX2_put_27 (s_aload_n dX2_put_28 rfl (s_getf (ci := 2) (j := 0) (C := RX2) (T := TX2) (N := 1) dX2_put_29 rfl (by decide) (by decide) qf_X2_11 (s_iload dX2_put_32 (s_iconst dX2_put_34 (s_iadd dX2_put_35 (s_iload dX2_put_36 (s_iastore dX2_put_38 (s_ret dX2_put_39 rfl)))))))))))))))))))))))))
theorem dX2_told_0 : decode cX2_told 0 = .ok (.aload_n 0, 1) := by decide +kernel
theorem dX2_told_1 : decode cX2_told 1 = .ok (.getfield 11, 3) := by decide +kernel
theorem dX2_told_4 : decode cX2_told 4 = .ok (.iload_n 1, 1) := by decide +kernel
theorem dX2_told_5 : decode cX2_told 5 = .ok (.bipush 100, 2) := by decide +kernel
theorem dX2_told_7 : decode cX2_told 7 = .ok (.invokestatic 15, 3) := by decide +kernel
theorem dX2_told_10 : decode cX2_told 10 = .ok (.iconst 3, 1) := by decide +kernel
theorem dX2_told_11 : decode cX2_told 11 = .ok (.imul, 1) := by decide +kernel
theorem dX2_told_12 : decode cX2_told 12 = .ok (.iload_n 2, 1) := by decide +kernel
theorem dX2_told_13 : decode cX2_told 13 = .ok (.iadd, 1) := by decide +kernel
theorem dX2_told_14 : decode cX2_told 14 = .ok (.iaload, 1) := by decide +kernel
theorem dX2_told_15 : decode cX2_told 15 = .ok (.ireturn, 1) := by decide +kernel
def kX2_told_0 (g : sk_G) (d ck sk : Nat) (Q : sk_P) : sk_K := o_aload 0 (o_getf 2 0 (o_iload 1 (o_i (100) (o_stcB (g, d, ck, sk, xX2_told, Q) xJ9_floorMod_7cf53 2 0 0 (o_i (3) (o_imul (o_iload 2 (o_iadd (o_iaload (o_iret (g, d, ck, sk, xX2_told, Q)))))))))))
theorem tX2_told_0 {g : sk_G} {d ck sk : Nat} {Q : sk_P} : sk_S (g, d, ck, sk, xX2_told, Q) 0 (kX2_told_0 g d ck sk Q) := s_aload_n dX2_told_0 rfl (s_getf (ci := 2) (j := 0) (C := RX2) (T := TX2) (N := 1) dX2_told_1 rfl (by decide) (by decide) qf_X2_11 (s_iload_n dX2_told_4 rfl (s_bipush dX2_told_5 rfl (s_stcB (w' := (g, d, ck, sk, xX2_told, Q)) (ck := 0) (sk := 0) dX2_told_7 m_J9_floorMod_7cf53 qm_X2_15 qs_J9_floorMod_7cf53 rfl (s_iconst dX2_told_10 (s_imul dX2_told_11 (s_iload_n dX2_told_12 rfl (s_iadd dX2_told_13 (s_iaload dX2_told_14 (s_iret dX2_told_15 rfl))))))))))
theorem dX2_copyFrom_0 : decode cX2_copyFrom 0 = .ok (.aload_n 1, 1) := by decide +kernel
theorem dX2_copyFrom_1 : decode cX2_copyFrom 1 = .ok (.getfield 11, 3) := by decide +kernel
theorem dX2_copyFrom_4 : decode cX2_copyFrom 4 = .ok (.iconst 0, 1) := by decide +kernel
theorem dX2_copyFrom_5 : decode cX2_copyFrom 5 = .ok (.aload_n 0, 1) := by decide +kernel
theorem dX2_copyFrom_6 : decode cX2_copyFrom 6 = .ok (.getfield 11, 3) := by decide +kernel
theorem dX2_copyFrom_9 : decode cX2_copyFrom 9 = .ok (.iconst 0, 1) := by decide +kernel
theorem dX2_copyFrom_10 : decode cX2_copyFrom 10 = .ok (.aload_n 0, 1) := by decide +kernel
theorem dX2_copyFrom_11 : decode cX2_copyFrom 11 = .ok (.getfield 11, 3) := by decide +kernel
theorem dX2_copyFrom_14 : decode cX2_copyFrom 14 = .ok (.arraylength, 1) := by decide +kernel
theorem dX2_copyFrom_15 : decode cX2_copyFrom 15 = .ok (.invokestatic 21, 3) := by decide +kernel
theorem dX2_copyFrom_18 : decode cX2_copyFrom 18 = .ok (.return_, 1) := by decide +kernel
def kX2_copyFrom_0 (g : sk_G) (d ck sk : Nat) (Q : sk_P) : sk_K := o_aload 1 (o_getf 2 0 (o_i (0) (o_aload 0 (o_getf 2 0 (o_i (0) (o_aload 0 (o_getf 2 0 (o_alen (o_acopy (g, d, ck, sk, xX2_copyFrom, Q) (o_ret (g, d, ck, sk, xX2_copyFrom, Q)))))))))))
theorem tX2_copyFrom_0 {g : sk_G} {d ck sk : Nat} {Q : sk_P} : sk_S (g, d, ck, sk, xX2_copyFrom, Q) 0 (kX2_copyFrom_0 g d ck sk Q) := s_aload_n dX2_copyFrom_0 rfl (s_getf (ci := 2) (j := 0) (C := RX2) (T := TX2) (N := 1) dX2_copyFrom_1 rfl (by decide) (by decide) qf_X2_11 (s_iconst dX2_copyFrom_4 (s_aload_n dX2_copyFrom_5 rfl (s_getf (ci := 2) (j := 0) (C := RX2) (T := TX2) (N := 1) dX2_copyFrom_6 rfl (by decide) (by decide) qf_X2_11 (s_iconst dX2_copyFrom_9 (s_aload_n dX2_copyFrom_10 rfl (s_getf (ci := 2) (j := 0) (C := RX2) (T := TX2) (N := 1) dX2_copyFrom_11 rfl (by decide) (by decide) qf_X2_11 (s_alen dX2_copyFrom_14 (s_acopy dX2_copyFrom_15 qm_X2_21 qn_acopy qs_acopy qz_J10 (s_ret dX2_copyFrom_18 rfl))))))))))
