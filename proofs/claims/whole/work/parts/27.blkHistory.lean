theorem dX0_forget_0 : decode cX0_forget 0 = .ok (.aload_n 0, 1) := by decide +kernel
theorem dX0_forget_1 : decode cX0_forget 1 = .ok (.iconst 0, 1) := by decide +kernel
theorem dX0_forget_2 : decode cX0_forget 2 = .ok (.putfield 29, 3) := by decide +kernel
theorem dX0_forget_5 : decode cX0_forget 5 = .ok (.aload_n 0, 1) := by decide +kernel
theorem dX0_forget_6 : decode cX0_forget 6 = .ok (.iconst 0, 1) := by decide +kernel
theorem dX0_forget_7 : decode cX0_forget 7 = .ok (.putfield 33, 3) := by decide +kernel
theorem dX0_forget_10 : decode cX0_forget 10 = .ok (.return_, 1) := by decide +kernel
def kX0_forget_0 (g : sk_G) (d ck sk : Nat) (Q : sk_P) : sk_K := o_aload 0 (o_i (0) (o_puti 0 2 (o_aload 0 (o_i (0) (o_putz 0 5 (o_ret (g, d, ck, sk, xX0_forget, Q)))))))
theorem tX0_forget_0 {g : sk_G} {d ck sk : Nat} {Q : sk_P} : sk_S (g, d, ck, sk, xX0_forget, Q) 0 (kX0_forget_0 g d ck sk Q) := s_aload_n dX0_forget_0 rfl (s_iconst dX0_forget_1 (s_puti (ci := 0) (j := 2) (C := RX0) (T := TX0) (N := 6) dX0_forget_2 rfl (by decide) (by decide) rfl (tyX0_ok 2 (by decide)) qf_X0_29 (s_aload_n dX0_forget_5 rfl (s_iconst dX0_forget_6 (s_putz (ci := 0) (j := 5) (C := RX0) (T := TX0) (N := 6) dX0_forget_7 rfl (by decide) (by decide) rfl (tyX0_ok 5 (by decide)) qf_X0_33 (s_ret dX0_forget_10 rfl))))))
theorem dX0_init_0 : decode cX0_init 0 = .ok (.aload_n 0, 1) := by decide +kernel
theorem dX0_init_1 : decode cX0_init 1 = .ok (.invokespecial 3, 3) := by decide +kernel
theorem dX0_init_4 : decode cX0_init 4 = .ok (.aload_n 0, 1) := by decide +kernel
theorem dX0_init_5 : decode cX0_init 5 = .ok (.bipush 40, 2) := by decide +kernel
theorem dX0_init_7 : decode cX0_init 7 = .ok (.anewarray 9, 3) := by decide +kernel
theorem dX0_init_10 : decode cX0_init 10 = .ok (.putfield 11, 3) := by decide +kernel
theorem dX0_init_13 : decode cX0_init 13 = .ok (.aload_n 0, 1) := by decide +kernel
theorem dX0_init_14 : decode cX0_init 14 = .ok (.new 9, 3) := by decide +kernel
theorem dX0_init_17 : decode cX0_init 17 = .ok (.dup, 1) := by decide +kernel
theorem dX0_init_18 : decode cX0_init 18 = .ok (.invokespecial 17, 3) := by decide +kernel
theorem dX0_init_21 : decode cX0_init 21 = .ok (.putfield 18, 3) := by decide +kernel
theorem dX0_init_24 : decode cX0_init 24 = .ok (.aload_n 0, 1) := by decide +kernel
theorem dX0_init_25 : decode cX0_init 25 = .ok (.new 22, 3) := by decide +kernel
theorem dX0_init_28 : decode cX0_init 28 = .ok (.dup, 1) := by decide +kernel
theorem dX0_init_29 : decode cX0_init 29 = .ok (.invokespecial 24, 3) := by decide +kernel
theorem dX0_init_32 : decode cX0_init 32 = .ok (.putfield 25, 3) := by decide +kernel
theorem dX0_init_35 : decode cX0_init 35 = .ok (.return_, 1) := by decide +kernel
set_option maxRecDepth 20000 in
def kX0_init_0 (g : sk_G) (d ck sk : Nat) (Q : sk_P) : sk_K := o_aload 0 (o_obj (g, d, ck, sk, xX0_init, Q) (o_aload 0 (o_i (40) (o_newa (g, d, ck, sk, xX0_init, Q) 23 40 (sk_A (fun _ => none)) (o_puta 0 0 (o_aload 0 (o_new (g, d, ck - 1, sk - 40, xX0_init, Q) 5 6 [.inr (.inr none), .inr (.inr none), .inl 0, .inl 0, .inl 0, .inl 0] (o_dup (o_iniB (g, d, ck - 1 - 1, sk - 40 - 6, xX0_init, Q) xX5_init 0 2 280 (o_puta 0 3 (o_aload 0 (o_new (g, d, ck - 1 - 1 - 2, sk - 40 - 6 - 280, xX0_init, Q) 2 1 [.inr (.inr none)] (o_dup (o_iniB (g, d, ck - 1 - 1 - 2 - 1, sk - 40 - 6 - 280 - 1, xX0_init, Q) xX2_init 0 1 300 (o_puta 0 4 (o_ret (g, d, ck - 1 - 1 - 2 - 1 - 1, sk - 40 - 6 - 280 - 1 - 300, xX0_init, Q)))))))))))))))))
set_option maxRecDepth 20000 in
theorem tX0_init_0 {g : sk_G} {d ck sk : Nat} {Q : sk_P} : sk_S (g, d, ck, sk, xX0_init, Q) 0 (kX0_init_0 g d ck sk Q) := s_aload_n dX0_init_0 rfl (s_obj dX0_init_1 qm_X0_3 qi_obj qc_obj (s_aload_n dX0_init_4 rfl (s_bipush dX0_init_5 rfl (s_anewa (w' := (g, d, ck - 1, sk - 40, xX0_init, Q)) (q := 23) (N := 40) dX0_init_7 (by decide) (by decide) rfl (by decide) ql_X0_9 qv_X5 rfl (s_putaF (ci := 0) (j := 0) (C := RX0) (T := TX0) (N := 6) dX0_init_10 rfl (by decide) (by decide) rfl rfl rfl (Or.inr ⟨_, rfl⟩) (tyX0_ok 0 (by decide)) qf_X0_11 (s_aload_n dX0_init_13 rfl (s_new (w' := (g, d, ck - 1 - 1, sk - 40 - 6, xX0_init, Q)) (ci := 5) (N := 6) (C := RX5) (T := TX5) (ty := tyX5) dX0_init_14 rfl (by decide) tyX5_ok (by decide) (by decide) ql_X0_9 qa_X5 qz_X5 rfl (s_dup dX0_init_17 (s_iniN (w' := (g, d, ck - 1 - 1 - 2, sk - 40 - 6 - 280, xX0_init, Q)) (ck := 2) (sk := 280) dX0_init_18 m_X5_init rfl rfl qmn_X0_17 qi_X5_init rfl (s_putaF (ci := 0) (j := 3) (C := RX0) (T := TX0) (N := 6) dX0_init_21 rfl (by decide) (by decide) rfl rfl rfl (Or.inl ⟨_, rfl⟩) (tyX0_ok 3 (by decide)) qf_X0_18 (s_aload_n dX0_init_24 rfl (s_new (w' := (g, d, ck - 1 - 1 - 2 - 1, sk - 40 - 6 - 280 - 1, xX0_init, Q)) (ci := 2) (N := 1) (C := RX2) (T := TX2) (ty := tyX2) dX0_init_25 rfl (by decide) tyX2_ok (by decide) (by decide) ql_X0_22 qa_X2 qz_X2 rfl (s_dup dX0_init_28 (s_iniN (w' := (g, d, ck - 1 - 1 - 2 - 1 - 1, sk - 40 - 6 - 280 - 1 - 300, xX0_init, Q)) (ck := 1) (sk := 300) dX0_init_29 m_X2_init rfl rfl qmn_X0_24 qi_X2_init rfl (s_putaF (ci := 0) (j := 4) (C := RX0) (T := TX0) (N := 6) dX0_init_32 rfl (by decide) (by decide) rfl rfl rfl (Or.inl ⟨_, rfl⟩) (tyX0_ok 4 (by decide)) qf_X0_25 (s_ret dX0_init_35 rfl))))))))))))))))
theorem dX0_keep_0 : decode cX0_keep 0 = .ok (.aload_n 0, 1) := by decide +kernel
theorem dX0_keep_1 : decode cX0_keep 1 = .ok (.getfield 11, 3) := by decide +kernel
theorem dX0_keep_4 : decode cX0_keep 4 = .ok (.aload_n 0, 1) := by decide +kernel
theorem dX0_keep_5 : decode cX0_keep 5 = .ok (.getfield 37, 3) := by decide +kernel
theorem dX0_keep_8 : decode cX0_keep 8 = .ok (.aaload, 1) := by decide +kernel
theorem dX0_keep_9 : decode cX0_keep 9 = .ok (.ifnonnull 19, 3) := by decide +kernel
theorem dX0_keep_12 : decode cX0_keep 12 = .ok (.aload_n 0, 1) := by decide +kernel
theorem dX0_keep_13 : decode cX0_keep 13 = .ok (.getfield 11, 3) := by decide +kernel
theorem dX0_keep_16 : decode cX0_keep 16 = .ok (.aload_n 0, 1) := by decide +kernel
theorem dX0_keep_17 : decode cX0_keep 17 = .ok (.getfield 37, 3) := by decide +kernel
theorem dX0_keep_20 : decode cX0_keep 20 = .ok (.new 9, 3) := by decide +kernel
theorem dX0_keep_23 : decode cX0_keep 23 = .ok (.dup, 1) := by decide +kernel
theorem dX0_keep_24 : decode cX0_keep 24 = .ok (.invokespecial 17, 3) := by decide +kernel
theorem dX0_keep_27 : decode cX0_keep 27 = .ok (.aastore, 1) := by decide +kernel
theorem dX0_keep_28 : decode cX0_keep 28 = .ok (.aload_n 0, 1) := by decide +kernel
theorem dX0_keep_29 : decode cX0_keep 29 = .ok (.getfield 11, 3) := by decide +kernel
theorem dX0_keep_32 : decode cX0_keep 32 = .ok (.aload_n 0, 1) := by decide +kernel
theorem dX0_keep_33 : decode cX0_keep 33 = .ok (.getfield 37, 3) := by decide +kernel
theorem dX0_keep_36 : decode cX0_keep 36 = .ok (.aaload, 1) := by decide +kernel
theorem dX0_keep_37 : decode cX0_keep 37 = .ok (.aload_n 1, 1) := by decide +kernel
theorem dX0_keep_38 : decode cX0_keep 38 = .ok (.invokevirtual 40, 3) := by decide +kernel
theorem dX0_keep_41 : decode cX0_keep 41 = .ok (.aload_n 0, 1) := by decide +kernel
theorem dX0_keep_42 : decode cX0_keep 42 = .ok (.aload_n 0, 1) := by decide +kernel
theorem dX0_keep_43 : decode cX0_keep 43 = .ok (.getfield 37, 3) := by decide +kernel
theorem dX0_keep_46 : decode cX0_keep 46 = .ok (.iconst 1, 1) := by decide +kernel
theorem dX0_keep_47 : decode cX0_keep 47 = .ok (.iadd, 1) := by decide +kernel
theorem dX0_keep_48 : decode cX0_keep 48 = .ok (.bipush 40, 2) := by decide +kernel
theorem dX0_keep_50 : decode cX0_keep 50 = .ok (.irem, 1) := by decide +kernel
theorem dX0_keep_51 : decode cX0_keep 51 = .ok (.putfield 37, 3) := by decide +kernel
theorem dX0_keep_54 : decode cX0_keep 54 = .ok (.aload_n 0, 1) := by decide +kernel
theorem dX0_keep_55 : decode cX0_keep 55 = .ok (.bipush 40, 2) := by decide +kernel
theorem dX0_keep_57 : decode cX0_keep 57 = .ok (.aload_n 0, 1) := by decide +kernel
theorem dX0_keep_58 : decode cX0_keep 58 = .ok (.getfield 29, 3) := by decide +kernel
theorem dX0_keep_61 : decode cX0_keep 61 = .ok (.iconst 1, 1) := by decide +kernel
theorem dX0_keep_62 : decode cX0_keep 62 = .ok (.iadd, 1) := by decide +kernel
theorem dX0_keep_63 : decode cX0_keep 63 = .ok (.invokestatic 44, 3) := by decide +kernel
theorem dX0_keep_66 : decode cX0_keep 66 = .ok (.putfield 29, 3) := by decide +kernel
theorem dX0_keep_69 : decode cX0_keep 69 = .ok (.return_, 1) := by decide +kernel
set_option maxRecDepth 20000 in
def kX0_keep_0 (g : sk_G) (d ck sk : Nat) (Q : sk_P) : sk_K := o_aload 0 (o_getf 0 0 (o_aload 0 (o_getf 0 1 (o_aaload (o_ifnull (o_aload 0 (o_getf 0 0 (o_aload 0 (o_getf 0 1 (o_new (g, d, ck, sk, xX0_keep, Q) 5 6 [.inr (.inr none), .inr (.inr none), .inl 0, .inl 0, .inl 0, .inl 0] (o_dup (o_iniB (g, d, ck - 1, sk - 6, xX0_keep, Q) xX5_init 0 2 280 (o_aastore (sk_B (g, d, ck - 1 - 2, sk - 6 - 280, xX0_keep, Q) 28))))))))) (sk_B (g, d, ck, sk, xX0_keep, Q) 28))))))
set_option maxRecDepth 20000 in
theorem tX0_keep_0 {g : sk_G} {d ck sk : Nat} {Q : sk_P} : sk_S (g, d, ck, sk, xX0_keep, Q) 0 (kX0_keep_0 g d ck sk Q) := s_aload_n dX0_keep_0 rfl (s_getf (ci := 0) (j := 0) (C := RX0) (T := TX0) (N := 6) dX0_keep_1 rfl (by decide) (by decide) qf_X0_11 (s_aload_n dX0_keep_4 rfl (s_getf (ci := 0) (j := 1) (C := RX0) (T := TX0) (N := 6) dX0_keep_5 rfl (by decide) (by decide) qf_X0_37 (s_aaload dX0_keep_8 (s_ifnonnull (tgt := 28) dX0_keep_9 (by decide) (sk_id) (s_aload_n dX0_keep_12 rfl (s_getf (ci := 0) (j := 0) (C := RX0) (T := TX0) (N := 6) dX0_keep_13 rfl (by decide) (by decide) qf_X0_11 (s_aload_n dX0_keep_16 rfl (s_getf (ci := 0) (j := 1) (C := RX0) (T := TX0) (N := 6) dX0_keep_17 rfl (by decide) (by decide) qf_X0_37 (s_new (w' := (g, d, ck - 1, sk - 6, xX0_keep, Q)) (ci := 5) (N := 6) (C := RX5) (T := TX5) (ty := tyX5) dX0_keep_20 rfl (by decide) tyX5_ok (by decide) (by decide) ql_X0_9 qa_X5 qz_X5 rfl (s_dup dX0_keep_23 (s_iniN (w' := (g, d, ck - 1 - 2, sk - 6 - 280, xX0_keep, Q)) (ck := 2) (sk := 280) dX0_keep_24 m_X5_init rfl rfl qmn_X0_17 qi_X5_init rfl (s_aastore dX0_keep_27 (sk_id))))))))))))))
set_option maxRecDepth 20000 in
def kX0_keep_28 (g : sk_G) (d ck sk : Nat) (Q : sk_P) : sk_K := o_aload 0 (o_getf 0 0 (o_aload 0 (o_getf 0 1 (o_aaload (o_aload 1 (o_invB (g, d, ck, sk, xX0_keep, Q) xX5_copyFrom 1 5 0 0 (o_aload 0 (o_aload 0 (o_getf 0 1 (o_i (1) (o_iadd (o_i (40) (o_irem (o_puti 0 1 (o_aload 0 (o_i (40) (o_aload 0 (o_getf 0 2 (o_i (1) (o_iadd (o_min (g, d, ck, sk, xX0_keep, Q) (o_puti 0 2 (o_ret (g, d, ck, sk, xX0_keep, Q))))))))))))))))))))))))
set_option maxRecDepth 20000 in
theorem tX0_keep_28 {g : sk_G} {d ck sk : Nat} {Q : sk_P} : sk_S (g, d, ck, sk, xX0_keep, Q) 28 (kX0_keep_28 g d ck sk Q) := s_aload_n dX0_keep_28 rfl (s_getf (ci := 0) (j := 0) (C := RX0) (T := TX0) (N := 6) dX0_keep_29 rfl (by decide) (by decide) qf_X0_11 (s_aload_n dX0_keep_32 rfl (s_getf (ci := 0) (j := 1) (C := RX0) (T := TX0) (N := 6) dX0_keep_33 rfl (by decide) (by decide) qf_X0_37 (s_aaload dX0_keep_36 (s_aload_n dX0_keep_37 rfl (s_invB (w' := (g, d, ck, sk, xX0_keep, Q)) (ci := 5) (ck := 0) (sk := 0) (T := TX5) (N := 6) dX0_keep_38 m_X5_copyFrom rfl (by decide) qm_X0_40 qi_X5_copyFrom qe_X5_copyFrom rfl (s_aload_n dX0_keep_41 rfl (s_aload_n dX0_keep_42 rfl (s_getf (ci := 0) (j := 1) (C := RX0) (T := TX0) (N := 6) dX0_keep_43 rfl (by decide) (by decide) qf_X0_37 (s_iconst dX0_keep_46 (s_iadd dX0_keep_47 (s_bipush dX0_keep_48 rfl (s_irem dX0_keep_50 (s_puti (ci := 0) (j := 1) (C := RX0) (T := TX0) (N := 6) dX0_keep_51 rfl (by decide) (by decide) rfl (tyX0_ok 1 (by decide)) qf_X0_37 (s_aload_n dX0_keep_54 rfl (s_bipush dX0_keep_55 rfl (s_aload_n dX0_keep_57 rfl (s_getf (ci := 0) (j := 2) (C := RX0) (T := TX0) (N := 6) dX0_keep_58 rfl (by decide) (by decide) qf_X0_29 (s_iconst dX0_keep_61 (s_iadd dX0_keep_62 (s_min dX0_keep_63 qm_X0_44 qs_Mmin qz_J9 qc_Mmin (s_puti (ci := 0) (j := 2) (C := RX0) (T := TX0) (N := 6) dX0_keep_66 rfl (by decide) (by decide) rfl (tyX0_ok 2 (by decide)) qf_X0_29 (s_ret dX0_keep_69 rfl)))))))))))))))))))))))
theorem dX0_undoInto_0 : decode cX0_undoInto 0 = .ok (.aload_n 0, 1) := by decide +kernel
theorem dX0_undoInto_1 : decode cX0_undoInto 1 = .ok (.getfield 37, 3) := by decide +kernel
theorem dX0_undoInto_4 : decode cX0_undoInto 4 = .ok (.bipush 40, 2) := by decide +kernel
theorem dX0_undoInto_6 : decode cX0_undoInto 6 = .ok (.iadd, 1) := by decide +kernel
theorem dX0_undoInto_7 : decode cX0_undoInto 7 = .ok (.iconst 1, 1) := by decide +kernel
theorem dX0_undoInto_8 : decode cX0_undoInto 8 = .ok (.isub, 1) := by decide +kernel
theorem dX0_undoInto_9 : decode cX0_undoInto 9 = .ok (.bipush 40, 2) := by decide +kernel
theorem dX0_undoInto_11 : decode cX0_undoInto 11 = .ok (.irem, 1) := by decide +kernel
theorem dX0_undoInto_12 : decode cX0_undoInto 12 = .ok (.istore_n 2, 1) := by decide +kernel
theorem dX0_undoInto_13 : decode cX0_undoInto 13 = .ok (.aload_n 0, 1) := by decide +kernel
theorem dX0_undoInto_14 : decode cX0_undoInto 14 = .ok (.getfield 29, 3) := by decide +kernel
theorem dX0_undoInto_17 : decode cX0_undoInto 17 = .ok (.ifCond .eq 12, 3) := by decide +kernel
theorem dX0_undoInto_20 : decode cX0_undoInto 20 = .ok (.aload_n 0, 1) := by decide +kernel
theorem dX0_undoInto_21 : decode cX0_undoInto 21 = .ok (.getfield 11, 3) := by decide +kernel
theorem dX0_undoInto_24 : decode cX0_undoInto 24 = .ok (.iload_n 2, 1) := by decide +kernel
theorem dX0_undoInto_25 : decode cX0_undoInto 25 = .ok (.aaload, 1) := by decide +kernel
theorem dX0_undoInto_26 : decode cX0_undoInto 26 = .ok (.ifnonnull 5, 3) := by decide +kernel
theorem dX0_undoInto_29 : decode cX0_undoInto 29 = .ok (.iconst (-1), 1) := by decide +kernel
theorem dX0_undoInto_30 : decode cX0_undoInto 30 = .ok (.ireturn, 1) := by decide +kernel
theorem dX0_undoInto_31 : decode cX0_undoInto 31 = .ok (.aload_n 1, 1) := by decide +kernel
theorem dX0_undoInto_32 : decode cX0_undoInto 32 = .ok (.aload_n 0, 1) := by decide +kernel
theorem dX0_undoInto_33 : decode cX0_undoInto 33 = .ok (.getfield 11, 3) := by decide +kernel
theorem dX0_undoInto_36 : decode cX0_undoInto 36 = .ok (.iload_n 2, 1) := by decide +kernel
theorem dX0_undoInto_37 : decode cX0_undoInto 37 = .ok (.aaload, 1) := by decide +kernel
theorem dX0_undoInto_38 : decode cX0_undoInto 38 = .ok (.invokevirtual 40, 3) := by decide +kernel
theorem dX0_undoInto_41 : decode cX0_undoInto 41 = .ok (.aload_n 0, 1) := by decide +kernel
theorem dX0_undoInto_42 : decode cX0_undoInto 42 = .ok (.iload_n 2, 1) := by decide +kernel
theorem dX0_undoInto_43 : decode cX0_undoInto 43 = .ok (.putfield 37, 3) := by decide +kernel
theorem dX0_undoInto_46 : decode cX0_undoInto 46 = .ok (.aload_n 0, 1) := by decide +kernel
theorem dX0_undoInto_47 : decode cX0_undoInto 47 = .ok (.dup, 1) := by decide +kernel
theorem dX0_undoInto_48 : decode cX0_undoInto 48 = .ok (.getfield 29, 3) := by decide +kernel
theorem dX0_undoInto_51 : decode cX0_undoInto 51 = .ok (.iconst 1, 1) := by decide +kernel
theorem dX0_undoInto_52 : decode cX0_undoInto 52 = .ok (.isub, 1) := by decide +kernel
theorem dX0_undoInto_53 : decode cX0_undoInto 53 = .ok (.putfield 29, 3) := by decide +kernel
theorem dX0_undoInto_56 : decode cX0_undoInto 56 = .ok (.aload_n 0, 1) := by decide +kernel
theorem dX0_undoInto_57 : decode cX0_undoInto 57 = .ok (.getfield 29, 3) := by decide +kernel
theorem dX0_undoInto_60 : decode cX0_undoInto 60 = .ok (.ireturn, 1) := by decide +kernel
set_option maxRecDepth 20000 in
def kX0_undoInto_0 (g : sk_G) (d ck sk : Nat) (Q : sk_P) : sk_K := o_aload 0 (o_getf 0 1 (o_i (40) (o_iadd (o_i (1) (o_isub (o_i (40) (o_irem (o_istore 2 (o_aload 0 (o_getf 0 2 (o_ifeq (o_i (-1) (o_iret (g, d, ck, sk, xX0_undoInto, Q))) (o_aload 0 (o_getf 0 0 (o_iload 2 (o_aaload (o_ifnull (o_i (-1) (o_iret (g, d, ck, sk, xX0_undoInto, Q))) (o_aload 1 (o_aload 0 (o_getf 0 0 (o_iload 2 (o_aaload (o_invB (g, d, ck, sk, xX0_undoInto, Q) xX5_copyFrom 1 5 0 0 (o_aload 0 (o_iload 2 (o_puti 0 1 (o_aload 0 (o_dup (o_getf 0 2 (o_i (1) (o_isub (o_puti 0 2 (o_aload 0 (o_getf 0 2 (o_iret (g, d, ck, sk, xX0_undoInto, Q)))))))))))))))))))))))))))))))))))
set_option maxRecDepth 20000 in
theorem tX0_undoInto_0 {g : sk_G} {d ck sk : Nat} {Q : sk_P} : sk_S (g, d, ck, sk, xX0_undoInto, Q) 0 (kX0_undoInto_0 g d ck sk Q) := s_aload_n dX0_undoInto_0 rfl (s_getf (ci := 0) (j := 1) (C := RX0) (T := TX0) (N := 6) dX0_undoInto_1 rfl (by decide) (by decide) qf_X0_37 (s_bipush dX0_undoInto_4 rfl (s_iadd dX0_undoInto_6 (s_iconst dX0_undoInto_7 (s_isub dX0_undoInto_8 (s_bipush dX0_undoInto_9 rfl (s_irem dX0_undoInto_11 (s_istore_n dX0_undoInto_12 rfl (by decide : 2 < 3) (s_aload_n dX0_undoInto_13 rfl (s_getf (ci := 0) (j := 2) (C := RX0) (T := TX0) (N := 6) dX0_undoInto_14 rfl (by decide) (by decide) qf_X0_29 (s_ifeq (tgt := 29) dX0_undoInto_17 (by decide) (s_iconst dX0_undoInto_29 (s_iret dX0_undoInto_30 rfl)) (s_aload_n dX0_undoInto_20 rfl (s_getf (ci := 0) (j := 0) (C := RX0) (T := TX0) (N := 6) dX0_undoInto_21 rfl (by decide) (by decide) qf_X0_11 (s_iload_n dX0_undoInto_24 rfl (s_aaload dX0_undoInto_25 (s_ifnonnull (tgt := 31) dX0_undoInto_26 (by decide) (s_aload_n dX0_undoInto_31 rfl (s_aload_n dX0_undoInto_32 rfl (s_getf (ci := 0) (j := 0) (C := RX0) (T := TX0) (N := 6) dX0_undoInto_33 rfl (by decide) (by decide) qf_X0_11 (s_iload_n dX0_undoInto_36 rfl (s_aaload dX0_undoInto_37 (s_invB (w' := (g, d, ck, sk, xX0_undoInto, Q)) (ci := 5) (ck := 0) (sk := 0) (T := TX5) (N := 6) dX0_undoInto_38 m_X5_copyFrom rfl (by decide) qm_X0_40 qi_X5_copyFrom qe_X5_copyFrom rfl (s_aload_n dX0_undoInto_41 rfl (s_iload_n dX0_undoInto_42 rfl (s_puti (ci := 0) (j := 1) (C := RX0) (T := TX0) (N := 6) dX0_undoInto_43 rfl (by decide) (by decide) rfl (tyX0_ok 1 (by decide)) qf_X0_37 (s_aload_n dX0_undoInto_46 rfl (s_dup dX0_undoInto_47 (s_getf (ci := 0) (j := 2) (C := RX0) (T := TX0) (N := 6) dX0_undoInto_48 rfl (by decide) (by decide) qf_X0_29 (s_iconst dX0_undoInto_51 (s_isub dX0_undoInto_52 (s_puti (ci := 0) (j := 2) (C := RX0) (T := TX0) (N := 6) dX0_undoInto_53 rfl (by decide) (by decide) rfl (tyX0_ok 2 (by decide)) qf_X0_29 (s_aload_n dX0_undoInto_56 rfl (s_getf (ci := 0) (j := 2) (C := RX0) (T := TX0) (N := 6) dX0_undoInto_57 rfl (by decide) (by decide) qf_X0_29 (s_iret dX0_undoInto_60 rfl)))))))))))))))))) (s_iconst dX0_undoInto_29 (s_iret dX0_undoInto_30 rfl))))))))))))))))))
theorem dX0_takeImage_0 : decode cX0_takeImage 0 = .ok (.aload_n 0, 1) := by decide +kernel
theorem dX0_takeImage_1 : decode cX0_takeImage 1 = .ok (.getfield 18, 3) := by decide +kernel
theorem dX0_takeImage_4 : decode cX0_takeImage 4 = .ok (.aload_n 1, 1) := by decide +kernel
theorem dX0_takeImage_5 : decode cX0_takeImage 5 = .ok (.invokevirtual 40, 3) := by decide +kernel
theorem dX0_takeImage_8 : decode cX0_takeImage 8 = .ok (.aload_n 0, 1) := by decide +kernel
theorem dX0_takeImage_9 : decode cX0_takeImage 9 = .ok (.getfield 25, 3) := by decide +kernel
theorem dX0_takeImage_12 : decode cX0_takeImage 12 = .ok (.aload_n 2, 1) := by decide +kernel
theorem dX0_takeImage_13 : decode cX0_takeImage 13 = .ok (.invokevirtual 50, 3) := by decide +kernel
theorem dX0_takeImage_16 : decode cX0_takeImage 16 = .ok (.aload_n 0, 1) := by decide +kernel
theorem dX0_takeImage_17 : decode cX0_takeImage 17 = .ok (.iconst 1, 1) := by decide +kernel
theorem dX0_takeImage_18 : decode cX0_takeImage 18 = .ok (.putfield 33, 3) := by decide +kernel
theorem dX0_takeImage_21 : decode cX0_takeImage 21 = .ok (.return_, 1) := by decide +kernel
set_option maxRecDepth 20000 in
def kX0_takeImage_0 (g : sk_G) (d ck sk : Nat) (Q : sk_P) : sk_K := o_aload 0 (o_getf 0 3 (o_aload 1 (o_invB (g, d, ck, sk, xX0_takeImage, Q) xX5_copyFrom 1 5 0 0 (o_aload 0 (o_getf 0 4 (o_aload 2 (o_invB (g, d, ck, sk, xX0_takeImage, Q) xX2_copyFrom 1 2 0 0 (o_aload 0 (o_i (1) (o_putz 0 5 (o_ret (g, d, ck, sk, xX0_takeImage, Q))))))))))))
set_option maxRecDepth 20000 in
theorem tX0_takeImage_0 {g : sk_G} {d ck sk : Nat} {Q : sk_P} : sk_S (g, d, ck, sk, xX0_takeImage, Q) 0 (kX0_takeImage_0 g d ck sk Q) := s_aload_n dX0_takeImage_0 rfl (s_getf (ci := 0) (j := 3) (C := RX0) (T := TX0) (N := 6) dX0_takeImage_1 rfl (by decide) (by decide) qf_X0_18 (s_aload_n dX0_takeImage_4 rfl (s_invB (w' := (g, d, ck, sk, xX0_takeImage, Q)) (ci := 5) (ck := 0) (sk := 0) (T := TX5) (N := 6) dX0_takeImage_5 m_X5_copyFrom rfl (by decide) qm_X0_40 qi_X5_copyFrom qe_X5_copyFrom rfl (s_aload_n dX0_takeImage_8 rfl (s_getf (ci := 0) (j := 4) (C := RX0) (T := TX0) (N := 6) dX0_takeImage_9 rfl (by decide) (by decide) qf_X0_25 (s_aload_n dX0_takeImage_12 rfl (s_invB (w' := (g, d, ck, sk, xX0_takeImage, Q)) (ci := 2) (ck := 0) (sk := 0) (T := TX2) (N := 1) dX0_takeImage_13 m_X2_copyFrom rfl (by decide) qm_X0_50 qi_X2_copyFrom qe_X2_copyFrom rfl (s_aload_n dX0_takeImage_16 rfl (s_iconst dX0_takeImage_17 (s_putz (ci := 0) (j := 5) (C := RX0) (T := TX0) (N := 6) dX0_takeImage_18 rfl (by decide) (by decide) rfl (tyX0_ok 5 (by decide)) qf_X0_33 (s_ret dX0_takeImage_21 rfl)))))))))))
theorem dX0_goBack_0 : decode cX0_goBack 0 = .ok (.aload_n 0, 1) := by decide +kernel
theorem dX0_goBack_1 : decode cX0_goBack 1 = .ok (.getfield 33, 3) := by decide +kernel
theorem dX0_goBack_4 : decode cX0_goBack 4 = .ok (.ifCond .ne 5, 3) := by decide +kernel
theorem dX0_goBack_7 : decode cX0_goBack 7 = .ok (.iconst 0, 1) := by decide +kernel
theorem dX0_goBack_8 : decode cX0_goBack 8 = .ok (.ireturn, 1) := by decide +kernel
theorem dX0_goBack_9 : decode cX0_goBack 9 = .ok (.aload_n 1, 1) := by decide +kernel
theorem dX0_goBack_10 : decode cX0_goBack 10 = .ok (.aload_n 0, 1) := by decide +kernel
theorem dX0_goBack_11 : decode cX0_goBack 11 = .ok (.getfield 18, 3) := by decide +kernel
theorem dX0_goBack_14 : decode cX0_goBack 14 = .ok (.invokevirtual 40, 3) := by decide +kernel
theorem dX0_goBack_17 : decode cX0_goBack 17 = .ok (.aload_n 2, 1) := by decide +kernel
theorem dX0_goBack_18 : decode cX0_goBack 18 = .ok (.aload_n 0, 1) := by decide +kernel
theorem dX0_goBack_19 : decode cX0_goBack 19 = .ok (.getfield 25, 3) := by decide +kernel
theorem dX0_goBack_22 : decode cX0_goBack 22 = .ok (.invokevirtual 50, 3) := by decide +kernel
theorem dX0_goBack_25 : decode cX0_goBack 25 = .ok (.aload_n 0, 1) := by decide +kernel
theorem dX0_goBack_26 : decode cX0_goBack 26 = .ok (.iconst 0, 1) := by decide +kernel
theorem dX0_goBack_27 : decode cX0_goBack 27 = .ok (.putfield 29, 3) := by decide +kernel
theorem dX0_goBack_30 : decode cX0_goBack 30 = .ok (.iconst 1, 1) := by decide +kernel
theorem dX0_goBack_31 : decode cX0_goBack 31 = .ok (.ireturn, 1) := by decide +kernel
set_option maxRecDepth 20000 in
def kX0_goBack_0 (g : sk_G) (d ck sk : Nat) (Q : sk_P) : sk_K := o_aload 0 (o_getf 0 5 (o_ifne (o_aload 1 (o_aload 0 (o_getf 0 3 (o_invB (g, d, ck, sk, xX0_goBack, Q) xX5_copyFrom 1 5 0 0 (o_aload 2 (o_aload 0 (o_getf 0 4 (o_invB (g, d, ck, sk, xX0_goBack, Q) xX2_copyFrom 1 2 0 0 (o_aload 0 (o_i (0) (o_puti 0 2 (o_i (1) (o_zret (g, d, ck, sk, xX0_goBack, Q)))))))))))))) (o_i (0) (o_zret (g, d, ck, sk, xX0_goBack, Q)))))
set_option maxRecDepth 20000 in
theorem tX0_goBack_0 {g : sk_G} {d ck sk : Nat} {Q : sk_P} : sk_S (g, d, ck, sk, xX0_goBack, Q) 0 (kX0_goBack_0 g d ck sk Q) := s_aload_n dX0_goBack_0 rfl (s_getf (ci := 0) (j := 5) (C := RX0) (T := TX0) (N := 6) dX0_goBack_1 rfl (by decide) (by decide) qf_X0_33 (s_ifne (tgt := 9) dX0_goBack_4 (by decide) (s_aload_n dX0_goBack_9 rfl (s_aload_n dX0_goBack_10 rfl (s_getf (ci := 0) (j := 3) (C := RX0) (T := TX0) (N := 6) dX0_goBack_11 rfl (by decide) (by decide) qf_X0_18 (s_invB (w' := (g, d, ck, sk, xX0_goBack, Q)) (ci := 5) (ck := 0) (sk := 0) (T := TX5) (N := 6) dX0_goBack_14 m_X5_copyFrom rfl (by decide) qm_X0_40 qi_X5_copyFrom qe_X5_copyFrom rfl (s_aload_n dX0_goBack_17 rfl (s_aload_n dX0_goBack_18 rfl (s_getf (ci := 0) (j := 4) (C := RX0) (T := TX0) (N := 6) dX0_goBack_19 rfl (by decide) (by decide) qf_X0_25 (s_invB (w' := (g, d, ck, sk, xX0_goBack, Q)) (ci := 2) (ck := 0) (sk := 0) (T := TX2) (N := 1) dX0_goBack_22 m_X2_copyFrom rfl (by decide) qm_X0_50 qi_X2_copyFrom qe_X2_copyFrom rfl (s_aload_n dX0_goBack_25 rfl (s_iconst dX0_goBack_26 (s_puti (ci := 0) (j := 2) (C := RX0) (T := TX0) (N := 6) dX0_goBack_27 rfl (by decide) (by decide) rfl (tyX0_ok 2 (by decide)) qf_X0_29 (s_iconst dX0_goBack_30 (s_zret dX0_goBack_31 rfl))))))))))))) (s_iconst dX0_goBack_7 (s_zret dX0_goBack_8 rfl))))
