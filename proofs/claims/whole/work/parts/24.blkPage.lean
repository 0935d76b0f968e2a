theorem dX5_codeAt_0 : decode cX5_codeAt 0 = .ok (.aload_n 0, 1) := by decide +kernel
theorem dX5_codeAt_1 : decode cX5_codeAt 1 = .ok (.getfield 9, 3) := by decide +kernel
theorem dX5_codeAt_4 : decode cX5_codeAt 4 = .ok (.bipush 6, 2) := by decide +kernel
theorem dX5_codeAt_6 : decode cX5_codeAt 6 = .ok (.iload_n 1, 1) := by decide +kernel
theorem dX5_codeAt_7 : decode cX5_codeAt 7 = .ok (.imul, 1) := by decide +kernel
theorem dX5_codeAt_8 : decode cX5_codeAt 8 = .ok (.iload_n 2, 1) := by decide +kernel
theorem dX5_codeAt_9 : decode cX5_codeAt 9 = .ok (.iadd, 1) := by decide +kernel
theorem dX5_codeAt_10 : decode cX5_codeAt 10 = .ok (.iaload, 1) := by decide +kernel
theorem dX5_codeAt_11 : decode cX5_codeAt 11 = .ok (.ireturn, 1) := by decide +kernel
def kX5_codeAt_0 (g : sk_G) (d ck sk : Nat) (Q : sk_P) : sk_K := o_aload 0 (o_getf 5 0 (o_i (6) (o_iload 1 (o_imul (o_iload 2 (o_iadd (o_iaload (o_iret (g, d, ck, sk, xX5_codeAt, Q)))))))))
theorem tX5_codeAt_0 {g : sk_G} {d ck sk : Nat} {Q : sk_P} : sk_S (g, d, ck, sk, xX5_codeAt, Q) 0 (kX5_codeAt_0 g d ck sk Q) := s_aload_n dX5_codeAt_0 rfl (s_getf (ci := 5) (j := 0) (C := RX5) (T := TX5) (N := 6) dX5_codeAt_1 rfl (by decide) (by decide) qf_X5_9 (s_bipush dX5_codeAt_4 rfl (s_iload_n dX5_codeAt_6 rfl (s_imul dX5_codeAt_7 (s_iload_n dX5_codeAt_8 rfl (s_iadd dX5_codeAt_9 (s_iaload dX5_codeAt_10 (s_iret dX5_codeAt_11 rfl))))))))
theorem dX5_letterIn_0 : decode cX5_letterIn 0 = .ok (.iload_n 0, 1) := by decide +kernel
theorem dX5_letterIn_1 : decode cX5_letterIn 1 = .ok (.bipush 6, 2) := by decide +kernel
theorem dX5_letterIn_3 : decode cX5_letterIn 3 = .ok (.ishr, 1) := by decide +kernel
theorem dX5_letterIn_4 : decode cX5_letterIn 4 = .ok (.ireturn, 1) := by decide +kernel
def kX5_letterIn_0 (g : sk_G) (d ck sk : Nat) (Q : sk_P) : sk_K := o_iload 0 (o_i (6) (o_ishr (o_iret (g, d, ck, sk, xX5_letterIn, Q))))
theorem tX5_letterIn_0 {g : sk_G} {d ck sk : Nat} {Q : sk_P} : sk_S (g, d, ck, sk, xX5_letterIn, Q) 0 (kX5_letterIn_0 g d ck sk Q) := s_iload_n dX5_letterIn_0 rfl (s_bipush dX5_letterIn_1 rfl (s_ishr dX5_letterIn_3 (s_iret dX5_letterIn_4 rfl)))
theorem dX5_handIn_0 : decode cX5_handIn 0 = .ok (.iload_n 0, 1) := by decide +kernel
theorem dX5_handIn_1 : decode cX5_handIn 1 = .ok (.iconst 4, 1) := by decide +kernel
theorem dX5_handIn_2 : decode cX5_handIn 2 = .ok (.ishr, 1) := by decide +kernel
theorem dX5_handIn_3 : decode cX5_handIn 3 = .ok (.iconst 3, 1) := by decide +kernel
theorem dX5_handIn_4 : decode cX5_handIn 4 = .ok (.iand, 1) := by decide +kernel
theorem dX5_handIn_5 : decode cX5_handIn 5 = .ok (.ireturn, 1) := by decide +kernel
def kX5_handIn_0 (g : sk_G) (d ck sk : Nat) (Q : sk_P) : sk_K := o_iload 0 (o_i (4) (o_ishr (o_i (3) (o_iand (o_iret (g, d, ck, sk, xX5_handIn, Q))))))
theorem tX5_handIn_0 {g : sk_G} {d ck sk : Nat} {Q : sk_P} : sk_S (g, d, ck, sk, xX5_handIn, Q) 0 (kX5_handIn_0 g d ck sk Q) := s_iload_n dX5_handIn_0 rfl (s_iconst dX5_handIn_1 (s_ishr dX5_handIn_2 (s_iconst dX5_handIn_3 (s_iand dX5_handIn_4 (s_iret dX5_handIn_5 rfl)))))
theorem dX5_strengthIn_0 : decode cX5_strengthIn 0 = .ok (.iload_n 0, 1) := by decide +kernel
theorem dX5_strengthIn_1 : decode cX5_strengthIn 1 = .ok (.bipush 15, 2) := by decide +kernel
theorem dX5_strengthIn_3 : decode cX5_strengthIn 3 = .ok (.iand, 1) := by decide +kernel
theorem dX5_strengthIn_4 : decode cX5_strengthIn 4 = .ok (.ireturn, 1) := by decide +kernel
def kX5_strengthIn_0 (g : sk_G) (d ck sk : Nat) (Q : sk_P) : sk_K := o_iload 0 (o_i (15) (o_iand (o_iret (g, d, ck, sk, xX5_strengthIn, Q))))
theorem tX5_strengthIn_0 {g : sk_G} {d ck sk : Nat} {Q : sk_P} : sk_S (g, d, ck, sk, xX5_strengthIn, Q) 0 (kX5_strengthIn_0 g d ck sk Q) := s_iload_n dX5_strengthIn_0 rfl (s_bipush dX5_strengthIn_1 rfl (s_iand dX5_strengthIn_3 (s_iret dX5_strengthIn_4 rfl)))
theorem dX5_put_0 : decode cX5_put 0 = .ok (.aload_n 0, 1) := by decide +kernel
theorem dX5_put_1 : decode cX5_put 1 = .ok (.getfield 9, 3) := by decide +kernel
theorem dX5_put_4 : decode cX5_put 4 = .ok (.bipush 6, 2) := by decide +kernel
theorem dX5_put_6 : decode cX5_put 6 = .ok (.iload_n 1, 1) := by decide +kernel
theorem dX5_put_7 : decode cX5_put 7 = .ok (.imul, 1) := by decide +kernel
theorem dX5_put_8 : decode cX5_put 8 = .ok (.iload_n 2, 1) := by decide +kernel
theorem dX5_put_9 : decode cX5_put 9 = .ok (.iadd, 1) := by decide +kernel
theorem dX5_put_10 : decode cX5_put 10 = .ok (.iload_n 3, 1) := by decide +kernel
theorem dX5_put_11 : decode cX5_put 11 = .ok (.iastore, 1) := by decide +kernel
theorem dX5_put_12 : decode cX5_put 12 = .ok (.return_, 1) := by decide +kernel
def kX5_put_0 (g : sk_G) (d ck sk : Nat) (Q : sk_P) : sk_K := o_aload 0 (o_getf 5 0 (o_i (6) (o_iload 1 (o_imul (o_iload 2 (o_iadd (o_iload 3 (o_iastore (o_ret (g, d, ck, sk, xX5_put, Q))))))))))
theorem tX5_put_0 {g : sk_G} {d ck sk : Nat} {Q : sk_P} : sk_S (g, d, ck, sk, xX5_put, Q) 0 (kX5_put_0 g d ck sk Q) := s_aload_n dX5_put_0 rfl (s_getf (ci := 5) (j := 0) (C := RX5) (T := TX5) (N := 6) dX5_put_1 rfl (by decide) (by decide) qf_X5_9 (s_bipush dX5_put_4 rfl (s_iload_n dX5_put_6 rfl (s_imul dX5_put_7 (s_iload_n dX5_put_8 rfl (s_iadd dX5_put_9 (s_iload_n dX5_put_10 rfl (s_iastore dX5_put_11 (s_ret dX5_put_12 rfl)))))))))
theorem dX5_weakened_0 : decode cX5_weakened 0 = .ok (.iload_n 0, 1) := by decide +kernel
theorem dX5_weakened_1 : decode cX5_weakened 1 = .ok (.iload_n 0, 1) := by decide +kernel
theorem dX5_weakened_2 : decode cX5_weakened 2 = .ok (.invokestatic 18, 3) := by decide +kernel
theorem dX5_weakened_5 : decode cX5_weakened 5 = .ok (.isub, 1) := by decide +kernel
theorem dX5_weakened_6 : decode cX5_weakened 6 = .ok (.iload_n 1, 1) := by decide +kernel
theorem dX5_weakened_7 : decode cX5_weakened 7 = .ok (.iadd, 1) := by decide +kernel
theorem dX5_weakened_8 : decode cX5_weakened 8 = .ok (.ireturn, 1) := by decide +kernel
set_option maxRecDepth 20000 in
def kX5_weakened_0 (g : sk_G) (d ck sk : Nat) (Q : sk_P) : sk_K := o_iload 0 (o_iload 0 (o_stcT (g, d, ck, sk, xX5_weakened, Q) 1 1 (fun Q => kX5_strengthIn_0 g (d - 1) 0 0 Q) (o_isub (o_iload 1 (o_iadd (o_iret (g, d, ck, sk, xX5_weakened, Q)))))))
set_option maxRecDepth 20000 in
theorem tX5_weakened_0 {g : sk_G} {d ck sk : Nat} {Q : sk_P} : sk_S (g, d, ck, sk, xX5_weakened, Q) 0 (kX5_weakened_0 g d ck sk Q) := s_iload_n dX5_weakened_0 rfl (s_iload_n dX5_weakened_1 rfl (s_stcT (X := xX5_strengthIn) (K := (fun Q => kX5_strengthIn_0 g (d - 1) 0 0 Q)) (fun _ => tX5_strengthIn_0) rfl dX5_weakened_2 m_X5_strengthIn qm_X5_18 qs_X5_strengthIn (s_isub dX5_weakened_5 (s_iload_n dX5_weakened_6 rfl (s_iadd dX5_weakened_7 (s_iret dX5_weakened_8 rfl))))))
theorem dX5_init_0 : decode cX5_init 0 = .ok (.aload_n 0, 1) := by decide +kernel
theorem dX5_init_1 : decode cX5_init 1 = .ok (.invokespecial 3, 3) := by decide +kernel
theorem dX5_init_4 : decode cX5_init 4 = .ok (.aload_n 0, 1) := by decide +kernel
theorem dX5_init_5 : decode cX5_init 5 = .ok (.sipush 240, 3) := by decide +kernel
theorem dX5_init_8 : decode cX5_init 8 = .ok (.newarray .int, 2) := by decide +kernel
theorem dX5_init_10 : decode cX5_init 10 = .ok (.putfield 9, 3) := by decide +kernel
theorem dX5_init_13 : decode cX5_init 13 = .ok (.aload_n 0, 1) := by decide +kernel
theorem dX5_init_14 : decode cX5_init 14 = .ok (.bipush 40, 2) := by decide +kernel
theorem dX5_init_16 : decode cX5_init 16 = .ok (.newarray .int, 2) := by decide +kernel
theorem dX5_init_18 : decode cX5_init 18 = .ok (.putfield 15, 3) := by decide +kernel
theorem dX5_init_21 : decode cX5_init 21 = .ok (.return_, 1) := by decide +kernel
set_option maxRecDepth 20000 in
def kX5_init_0 (g : sk_G) (d ck sk : Nat) (Q : sk_P) : sk_K := o_aload 0 (o_obj (g, d, ck, sk, xX5_init, Q) (o_aload 0 (o_i (240) (o_newa (g, d, ck, sk, xX5_init, Q) 20 240 (sk_I (fun _ => 0)) (o_puta 5 0 (o_aload 0 (o_i (40) (o_newa (g, d, ck - 1, sk - 240, xX5_init, Q) 20 40 (sk_I (fun _ => 0)) (o_puta 5 1 (o_ret (g, d, ck - 1 - 1, sk - 240 - 40, xX5_init, Q)))))))))))
set_option maxRecDepth 20000 in
theorem tX5_init_0 {g : sk_G} {d ck sk : Nat} {Q : sk_P} : sk_S (g, d, ck, sk, xX5_init, Q) 0 (kX5_init_0 g d ck sk Q) := s_aload_n dX5_init_0 rfl (s_obj dX5_init_1 qm_X5_3 qi_obj qc_obj (s_aload_n dX5_init_4 rfl (s_sipush dX5_init_5 rfl (s_newI (w' := (g, d, ck - 1, sk - 240, xX5_init, Q)) (N := 240) dX5_init_8 (by decide) qr_int rfl (s_putaF (ci := 5) (j := 0) (C := RX5) (T := TX5) (N := 6) dX5_init_10 rfl (by decide) (by decide) rfl rfl rfl (Or.inr ⟨_, rfl⟩) (tyX5_ok 0 (by decide)) qf_X5_9 (s_aload_n dX5_init_13 rfl (s_bipush dX5_init_14 rfl (s_newI (w' := (g, d, ck - 1 - 1, sk - 240 - 40, xX5_init, Q)) (N := 40) dX5_init_16 (by decide) qr_int rfl (s_putaF (ci := 5) (j := 1) (C := RX5) (T := TX5) (N := 6) dX5_init_18 rfl (by decide) (by decide) rfl rfl rfl (Or.inr ⟨_, rfl⟩) (tyX5_ok 1 (by decide)) qf_X5_15 (s_ret dX5_init_21 rfl))))))))))
theorem dX5_blank_0 : decode cX5_blank 0 = .ok (.aload_n 0, 1) := by decide +kernel
theorem dX5_blank_1 : decode cX5_blank 1 = .ok (.getfield 15, 3) := by decide +kernel
theorem dX5_blank_4 : decode cX5_blank 4 = .ok (.iconst 0, 1) := by decide +kernel
theorem dX5_blank_5 : decode cX5_blank 5 = .ok (.invokestatic 22, 3) := by decide +kernel
theorem dX5_blank_8 : decode cX5_blank 8 = .ok (.aload_n 0, 1) := by decide +kernel
theorem dX5_blank_9 : decode cX5_blank 9 = .ok (.iload_n 1, 1) := by decide +kernel
theorem dX5_blank_10 : decode cX5_blank 10 = .ok (.putfield 28, 3) := by decide +kernel
theorem dX5_blank_13 : decode cX5_blank 13 = .ok (.aload_n 0, 1) := by decide +kernel
theorem dX5_blank_14 : decode cX5_blank 14 = .ok (.iconst 0, 1) := by decide +kernel
theorem dX5_blank_15 : decode cX5_blank 15 = .ok (.putfield 32, 3) := by decide +kernel
theorem dX5_blank_18 : decode cX5_blank 18 = .ok (.aload_n 0, 1) := by decide +kernel
theorem dX5_blank_19 : decode cX5_blank 19 = .ok (.iconst 0, 1) := by decide +kernel
theorem dX5_blank_20 : decode cX5_blank 20 = .ok (.putfield 35, 3) := by decide +kernel
theorem dX5_blank_23 : decode cX5_blank 23 = .ok (.aload_n 0, 1) := by decide +kernel
theorem dX5_blank_24 : decode cX5_blank 24 = .ok (.iconst 0, 1) := by decide +kernel
theorem dX5_blank_25 : decode cX5_blank 25 = .ok (.putfield 38, 3) := by decide +kernel
theorem dX5_blank_28 : decode cX5_blank 28 = .ok (.return_, 1) := by decide +kernel
set_option maxRecDepth 20000 in
def kX5_blank_0 (g : sk_G) (d ck sk : Nat) (Q : sk_P) : sk_K := o_aload 0 (o_getf 5 1 (o_i (0) (o_stcB (g, d, ck, sk, xX5_blank, Q) xJ7_fill_53178 2 0 0 (o_aload 0 (o_iload 1 (o_puti 5 2 (o_aload 0 (o_i (0) (o_puti 5 3 (o_aload 0 (o_i (0) (o_puti 5 4 (o_aload 0 (o_i (0) (o_puti 5 5 (o_ret (g, d, ck, sk, xX5_blank, Q)))))))))))))))))
set_option maxRecDepth 20000 in
theorem tX5_blank_0 {g : sk_G} {d ck sk : Nat} {Q : sk_P} : sk_S (g, d, ck, sk, xX5_blank, Q) 0 (kX5_blank_0 g d ck sk Q) := s_aload_n dX5_blank_0 rfl (s_getf (ci := 5) (j := 1) (C := RX5) (T := TX5) (N := 6) dX5_blank_1 rfl (by decide) (by decide) qf_X5_15 (s_iconst dX5_blank_4 (s_stcB (w' := (g, d, ck, sk, xX5_blank, Q)) (ck := 0) (sk := 0) dX5_blank_5 m_J7_fill_53178 qm_X5_22 qs_J7_fill_53178 rfl (s_aload_n dX5_blank_8 rfl (s_iload_n dX5_blank_9 rfl (s_puti (ci := 5) (j := 2) (C := RX5) (T := TX5) (N := 6) dX5_blank_10 rfl (by decide) (by decide) rfl (tyX5_ok 2 (by decide)) qf_X5_28 (s_aload_n dX5_blank_13 rfl (s_iconst dX5_blank_14 (s_puti (ci := 5) (j := 3) (C := RX5) (T := TX5) (N := 6) dX5_blank_15 rfl (by decide) (by decide) rfl (tyX5_ok 3 (by decide)) qf_X5_32 (s_aload_n dX5_blank_18 rfl (s_iconst dX5_blank_19 (s_puti (ci := 5) (j := 4) (C := RX5) (T := TX5) (N := 6) dX5_blank_20 rfl (by decide) (by decide) rfl (tyX5_ok 4 (by decide)) qf_X5_35 (s_aload_n dX5_blank_23 rfl (s_iconst dX5_blank_24 (s_puti (ci := 5) (j := 5) (C := RX5) (T := TX5) (N := 6) dX5_blank_25 rfl (by decide) (by decide) rfl (tyX5_ok 5 (by decide)) qf_X5_38 (s_ret dX5_blank_28 rfl))))))))))))))))
theorem dX5_copyFrom_0 : decode cX5_copyFrom 0 = .ok (.aload_n 1, 1) := by decide +kernel
theorem dX5_copyFrom_1 : decode cX5_copyFrom 1 = .ok (.getfield 9, 3) := by decide +kernel
theorem dX5_copyFrom_4 : decode cX5_copyFrom 4 = .ok (.iconst 0, 1) := by decide +kernel
theorem dX5_copyFrom_5 : decode cX5_copyFrom 5 = .ok (.aload_n 0, 1) := by decide +kernel
theorem dX5_copyFrom_6 : decode cX5_copyFrom 6 = .ok (.getfield 9, 3) := by decide +kernel
theorem dX5_copyFrom_9 : decode cX5_copyFrom 9 = .ok (.iconst 0, 1) := by decide +kernel
theorem dX5_copyFrom_10 : decode cX5_copyFrom 10 = .ok (.aload_n 0, 1) := by decide +kernel
theorem dX5_copyFrom_11 : decode cX5_copyFrom 11 = .ok (.getfield 9, 3) := by decide +kernel
theorem dX5_copyFrom_14 : decode cX5_copyFrom 14 = .ok (.arraylength, 1) := by decide +kernel
theorem dX5_copyFrom_15 : decode cX5_copyFrom 15 = .ok (.invokestatic 41, 3) := by decide +kernel
theorem dX5_copyFrom_18 : decode cX5_copyFrom 18 = .ok (.aload_n 1, 1) := by decide +kernel
theorem dX5_copyFrom_19 : decode cX5_copyFrom 19 = .ok (.getfield 15, 3) := by decide +kernel
theorem dX5_copyFrom_22 : decode cX5_copyFrom 22 = .ok (.iconst 0, 1) := by decide +kernel
theorem dX5_copyFrom_23 : decode cX5_copyFrom 23 = .ok (.aload_n 0, 1) := by decide +kernel
theorem dX5_copyFrom_24 : decode cX5_copyFrom 24 = .ok (.getfield 15, 3) := by decide +kernel
theorem dX5_copyFrom_27 : decode cX5_copyFrom 27 = .ok (.iconst 0, 1) := by decide +kernel
theorem dX5_copyFrom_28 : decode cX5_copyFrom 28 = .ok (.aload_n 0, 1) := by decide +kernel
theorem dX5_copyFrom_29 : decode cX5_copyFrom 29 = .ok (.getfield 15, 3) := by decide +kernel
theorem dX5_copyFrom_32 : decode cX5_copyFrom 32 = .ok (.arraylength, 1) := by decide +kernel
theorem dX5_copyFrom_33 : decode cX5_copyFrom 33 = .ok (.invokestatic 41, 3) := by decide +kernel
theorem dX5_copyFrom_36 : decode cX5_copyFrom 36 = .ok (.aload_n 0, 1) := by decide +kernel
theorem dX5_copyFrom_37 : decode cX5_copyFrom 37 = .ok (.aload_n 1, 1) := by decide +kernel
theorem dX5_copyFrom_38 : decode cX5_copyFrom 38 = .ok (.getfield 28, 3) := by decide +kernel
theorem dX5_copyFrom_41 : decode cX5_copyFrom 41 = .ok (.putfield 28, 3) := by decide +kernel
theorem dX5_copyFrom_44 : decode cX5_copyFrom 44 = .ok (.aload_n 0, 1) := by decide +kernel
theorem dX5_copyFrom_45 : decode cX5_copyFrom 45 = .ok (.aload_n 1, 1) := by decide +kernel
theorem dX5_copyFrom_46 : decode cX5_copyFrom 46 = .ok (.getfield 32, 3) := by decide +kernel
theorem dX5_copyFrom_49 : decode cX5_copyFrom 49 = .ok (.putfield 32, 3) := by decide +kernel
theorem dX5_copyFrom_52 : decode cX5_copyFrom 52 = .ok (.aload_n 0, 1) := by decide +kernel
theorem dX5_copyFrom_53 : decode cX5_copyFrom 53 = .ok (.aload_n 1, 1) := by decide +kernel
theorem dX5_copyFrom_54 : decode cX5_copyFrom 54 = .ok (.getfield 35, 3) := by decide +kernel
theorem dX5_copyFrom_57 : decode cX5_copyFrom 57 = .ok (.putfield 35, 3) := by decide +kernel
theorem dX5_copyFrom_60 : decode cX5_copyFrom 60 = .ok (.aload_n 0, 1) := by decide +kernel
theorem dX5_copyFrom_61 : decode cX5_copyFrom 61 = .ok (.aload_n 1, 1) := by decide +kernel
theorem dX5_copyFrom_62 : decode cX5_copyFrom 62 = .ok (.getfield 38, 3) := by decide +kernel
theorem dX5_copyFrom_65 : decode cX5_copyFrom 65 = .ok (.putfield 38, 3) := by decide +kernel
theorem dX5_copyFrom_68 : decode cX5_copyFrom 68 = .ok (.return_, 1) := by decide +kernel
set_option maxRecDepth 20000 in
def kX5_copyFrom_0 (g : sk_G) (d ck sk : Nat) (Q : sk_P) : sk_K := o_aload 1 (o_getf 5 0 (o_i (0) (o_aload 0 (o_getf 5 0 (o_i (0) (o_aload 0 (o_getf 5 0 (o_alen (o_acopy (g, d, ck, sk, xX5_copyFrom, Q) (o_aload 1 (o_getf 5 1 (o_i (0) (o_aload 0 (o_getf 5 1 (o_i (0) (o_aload 0 (o_getf 5 1 (o_alen (o_acopy (g, d, ck, sk, xX5_copyFrom, Q) (o_aload 0 (o_aload 1 (o_getf 5 2 (o_puti 5 2 (o_aload 0 (o_aload 1 (o_getf 5 3 (o_puti 5 3 (o_aload 0 (o_aload 1 (o_getf 5 4 (o_puti 5 4 (o_aload 0 (o_aload 1 (o_getf 5 5 (o_puti 5 5 (o_ret (g, d, ck, sk, xX5_copyFrom, Q)))))))))))))))))))))))))))))))))))))
set_option maxRecDepth 20000 in
theorem tX5_copyFrom_0 {g : sk_G} {d ck sk : Nat} {Q : sk_P} : sk_S (g, d, ck, sk, xX5_copyFrom, Q) 0 (kX5_copyFrom_0 g d ck sk Q) := s_aload_n dX5_copyFrom_0 rfl (s_getf (ci := 5) (j := 0) (C := RX5) (T := TX5) (N := 6) dX5_copyFrom_1 rfl (by decide) (by decide) qf_X5_9 (s_iconst dX5_copyFrom_4 (s_aload_n dX5_copyFrom_5 rfl (s_getf (ci := 5) (j := 0) (C := RX5) (T := TX5) (N := 6) dX5_copyFrom_6 rfl (by decide) (by decide) qf_X5_9 (s_iconst dX5_copyFrom_9 (s_aload_n dX5_copyFrom_10 rfl (s_getf (ci := 5) (j := 0) (C := RX5) (T := TX5) (N := 6) dX5_copyFrom_11 rfl (by decide) (by decide) qf_X5_9 (s_alen dX5_copyFrom_14 (s_acopy dX5_copyFrom_15 qm_X5_41 qn_acopy qs_acopy qz_J10 (s_aload_n dX5_copyFrom_18 rfl (s_getf (ci := 5) (j := 1) (C := RX5) (T := TX5) (N := 6) dX5_copyFrom_19 rfl (by decide) (by decide) qf_X5_15 (s_iconst dX5_copyFrom_22 (s_aload_n dX5_copyFrom_23 rfl (s_getf (ci := 5) (j := 1) (C := RX5) (T := TX5) (N := 6) dX5_copyFrom_24 rfl (by decide) (by decide) qf_X5_15 (s_iconst dX5_copyFrom_27 (s_aload_n dX5_copyFrom_28 rfl (s_getf (ci := 5) (j := 1) (C := RX5) (T := TX5) (N := 6) dX5_copyFrom_29 rfl (by decide) (by decide) qf_X5_15 (s_alen dX5_copyFrom_32 (s_acopy dX5_copyFrom_33 qm_X5_41 qn_acopy qs_acopy qz_J10 (s_aload_n dX5_copyFrom_36 rfl (s_aload_n dX5_copyFrom_37 rfl (s_getf (ci := 5) (j := 2) (C := RX5) (T := TX5) (N := 6) dX5_copyFrom_38 rfl (by decide) (by decide) qf_X5_28 (s_puti (ci := 5) (j := 2) (C := RX5) (T := TX5) (N := 6) dX5_copyFrom_41 rfl (by decide) (by decide) rfl (tyX5_ok 2 (by decide)) qf_X5_28 (s_aload_n dX5_copyFrom_44 rfl (s_aload_n dX5_copyFrom_45 rfl (s_getf (ci := 5) (j := 3) (C := RX5) (T := TX5) (N := 6) dX5_copyFrom_46 rfl (by decide) (by decide) qf_X5_32 (s_puti (ci := 5) (j := 3) (C := RX5) (T := TX5) (N := 6) dX5_copyFrom_49 rfl (by decide) (by decide) rfl (tyX5_ok 3 (by decide)) qf_X5_32 (s_aload_n dX5_copyFrom_52 rfl (s_aload_n dX5_copyFrom_53 rfl (s_getf (ci := 5) (j := 4) (C := RX5) (T := TX5) (N := 6) dX5_copyFrom_54 rfl (by decide) (by decide) qf_X5_35 (s_puti (ci := 5) (j := 4) (C := RX5) (T := TX5) (N := 6) dX5_copyFrom_57 rfl (by decide) (by decide) rfl (tyX5_ok 4 (by decide)) qf_X5_35 (s_aload_n dX5_copyFrom_60 rfl (s_aload_n dX5_copyFrom_61 rfl (s_getf (ci := 5) (j := 5) (C := RX5) (T := TX5) (N := 6) dX5_copyFrom_62 rfl (by decide) (by decide) qf_X5_38 (s_puti (ci := 5) (j := 5) (C := RX5) (T := TX5) (N := 6) dX5_copyFrom_65 rfl (by decide) (by decide) rfl (tyX5_ok 5 (by decide)) qf_X5_38 (s_ret dX5_copyFrom_68 rfl))))))))))))))))))))))))))))))))))))
theorem dX5_lay_0 : decode cX5_lay 0 = .ok (.aload_n 0, 1) := by decide +kernel
theorem dX5_lay_1 : decode cX5_lay 1 = .ok (.getfield 15, 3) := by decide +kernel
theorem dX5_lay_4 : decode cX5_lay 4 = .ok (.iload_n 1, 1) := by decide +kernel
theorem dX5_lay_5 : decode cX5_lay 5 = .ok (.iaload, 1) := by decide +kernel
theorem dX5_lay_6 : decode cX5_lay 6 = .ok (.bipush 6, 2) := by decide +kernel
theorem dX5_lay_8 : decode cX5_lay 8 = .ok (.if_icmp .ge 35, 3) := by decide +kernel
theorem dX5_lay_11 : decode cX5_lay 11 = .ok (.aload_n 0, 1) := by decide +kernel
theorem dX5_lay_12 : decode cX5_lay 12 = .ok (.iload_n 1, 1) := by decide +kernel
theorem dX5_lay_13 : decode cX5_lay 13 = .ok (.aload_n 0, 1) := by decide +kernel
theorem dX5_lay_14 : decode cX5_lay 14 = .ok (.getfield 15, 3) := by decide +kernel
theorem dX5_lay_17 : decode cX5_lay 17 = .ok (.iload_n 1, 1) := by decide +kernel
theorem dX5_lay_18 : decode cX5_lay 18 = .ok (.iaload, 1) := by decide +kernel
theorem dX5_lay_19 : decode cX5_lay 19 = .ok (.iload_n 2, 1) := by decide +kernel
theorem dX5_lay_20 : decode cX5_lay 20 = .ok (.bipush 6, 2) := by decide +kernel
theorem dX5_lay_22 : decode cX5_lay 22 = .ok (.ishl, 1) := by decide +kernel
theorem dX5_lay_23 : decode cX5_lay 23 = .ok (.iload_n 3, 1) := by decide +kernel
theorem dX5_lay_24 : decode cX5_lay 24 = .ok (.iconst 4, 1) := by decide +kernel
theorem dX5_lay_25 : decode cX5_lay 25 = .ok (.ishl, 1) := by decide +kernel
theorem dX5_lay_26 : decode cX5_lay 26 = .ok (.ior, 1) := by decide +kernel
theorem dX5_lay_27 : decode cX5_lay 27 = .ok (.iload 4, 2) := by decide +kernel
theorem dX5_lay_29 : decode cX5_lay 29 = .ok (.ior, 1) := by decide +kernel
theorem dX5_lay_30 : decode cX5_lay 30 = .ok (.invokevirtual 47, 3) := by decide +kernel
theorem dX5_lay_33 : decode cX5_lay 33 = .ok (.aload_n 0, 1) := by decide +kernel
theorem dX5_lay_34 : decode cX5_lay 34 = .ok (.getfield 15, 3) := by decide +kernel
theorem dX5_lay_37 : decode cX5_lay 37 = .ok (.iload_n 1, 1) := by decide +kernel
theorem dX5_lay_38 : decode cX5_lay 38 = .ok (.dup2, 1) := by decide +kernel
theorem dX5_lay_39 : decode cX5_lay 39 = .ok (.iaload, 1) := by decide +kernel
theorem dX5_lay_40 : decode cX5_lay 40 = .ok (.iconst 1, 1) := by decide +kernel
theorem dX5_lay_41 : decode cX5_lay 41 = .ok (.iadd, 1) := by decide +kernel
theorem dX5_lay_42 : decode cX5_lay 42 = .ok (.iastore, 1) := by decide +kernel
theorem dX5_lay_43 : decode cX5_lay 43 = .ok (.return_, 1) := by decide +kernel
set_option maxRecDepth 20000 in
def kX5_lay_0 (g : sk_G) (d ck sk : Nat) (Q : sk_P) : sk_K := o_aload 0 (o_getf 5 1 (o_iload 1 (o_iaload (o_i (6) (o_icge (o_ret (g, d, ck, sk, xX5_lay, Q)) (o_aload 0 (o_iload 1 (o_aload 0 (o_getf 5 1 (o_iload 1 (o_iaload (o_iload 2 (o_i (6) (o_ishl (o_iload 3 (o_i (4) (o_ishl (o_ior (o_iload 4 (o_ior (o_invT (g, d, ck, sk, xX5_lay, Q) 4 3 5 (fun Q => kX5_put_0 g (d - 1) 0 0 Q) (o_aload 0 (o_getf 5 1 (o_iload 1 (o_dup2 (o_iaload (o_i (1) (o_iadd (o_iastore (o_ret (g, d, ck, sk, xX5_lay, Q)))))))))))))))))))))))))))))))
set_option maxRecDepth 20000 in
theorem tX5_lay_0 {g : sk_G} {d ck sk : Nat} {Q : sk_P} : sk_S (g, d, ck, sk, xX5_lay, Q) 0 (kX5_lay_0 g d ck sk Q) := s_aload_n dX5_lay_0 rfl (s_getf (ci := 5) (j := 1) (C := RX5) (T := TX5) (N := 6) dX5_lay_1 rfl (by decide) (by decide) qf_X5_15 (s_iload_n dX5_lay_4 rfl (s_iaload dX5_lay_5 (s_bipush dX5_lay_6 rfl (s_icge (tgt := 43) dX5_lay_8 (by decide) (s_ret dX5_lay_43 rfl) (s_aload_n dX5_lay_11 rfl (s_iload_n dX5_lay_12 rfl (s_aload_n dX5_lay_13 rfl (s_getf (ci := 5) (j := 1) (C := RX5) (T := TX5) (N := 6) dX5_lay_14 rfl (by decide) (by decide) qf_X5_15 (s_iload_n dX5_lay_17 rfl (s_iaload dX5_lay_18 (s_iload_n dX5_lay_19 rfl (s_bipush dX5_lay_20 rfl (s_ishl dX5_lay_22 (s_iload_n dX5_lay_23 rfl (s_iconst dX5_lay_24 (s_ishl dX5_lay_25 (s_ior dX5_lay_26 (s_iload dX5_lay_27 (s_ior dX5_lay_29 (s_invT (X := xX5_put) (ci := 5) (T := TX5) (N := 6) (K := (fun Q => kX5_put_0 g (d - 1) 0 0 Q)) (fun _ => tX5_put_0) rfl dX5_lay_30 m_X5_put rfl (by decide) qm_X5_47 qi_X5_put qe_X5_put (s_aload_n dX5_lay_33 rfl (s_getf (ci := 5) (j := 1) (C := RX5) (T := TX5) (N := 6) dX5_lay_34 rfl (by decide) (by decide) qf_X5_15 (s_iload_n dX5_lay_37 rfl (s_dup2 dX5_lay_38 (s_iaload dX5_lay_39 (s_iconst dX5_lay_40 (s_iadd dX5_lay_41 (s_iastore dX5_lay_42 (s_ret dX5_lay_43 rfl))))))))))))))))))))))))))))))
theorem dX5_layersInAll_0 : decode cX5_layersInAll 0 = .ok (.iconst 0, 1) := by decide +kernel
theorem dX5_layersInAll_1 : decode cX5_layersInAll 1 = .ok (.istore_n 1, 1) := by decide +kernel
theorem dX5_layersInAll_2 : decode cX5_layersInAll 2 = .ok (.iconst 0, 1) := by decide +kernel
theorem dX5_layersInAll_3 : decode cX5_layersInAll 3 = .ok (.istore_n 2, 1) := by decide +kernel
theorem dX5_layersInAll_4 : decode cX5_layersInAll 4 = .ok (.iload_n 2, 1) := by decide +kernel
theorem dX5_layersInAll_5 : decode cX5_layersInAll 5 = .ok (.bipush 40, 2) := by decide +kernel
theorem dX5_layersInAll_7 : decode cX5_layersInAll 7 = .ok (.if_icmp .ge 18, 3) := by decide +kernel
theorem dX5_layersInAll_10 : decode cX5_layersInAll 10 = .ok (.iload_n 1, 1) := by decide +kernel
theorem dX5_layersInAll_11 : decode cX5_layersInAll 11 = .ok (.aload_n 0, 1) := by decide +kernel
theorem dX5_layersInAll_12 : decode cX5_layersInAll 12 = .ok (.getfield 15, 3) := by decide +kernel
theorem dX5_layersInAll_15 : decode cX5_layersInAll 15 = .ok (.iload_n 2, 1) := by decide +kernel
theorem dX5_layersInAll_16 : decode cX5_layersInAll 16 = .ok (.iaload, 1) := by decide +kernel
theorem dX5_layersInAll_17 : decode cX5_layersInAll 17 = .ok (.iadd, 1) := by decide +kernel
theorem dX5_layersInAll_18 : decode cX5_layersInAll 18 = .ok (.istore_n 1, 1) := by decide +kernel
theorem dX5_layersInAll_19 : decode cX5_layersInAll 19 = .ok (.iinc 2 1, 3) := by decide +kernel
theorem dX5_layersInAll_22 : decode cX5_layersInAll 22 = .ok (.goto (-18), 3) := by decide +kernel
theorem dX5_layersInAll_25 : decode cX5_layersInAll 25 = .ok (.iload_n 1, 1) := by decide +kernel
theorem dX5_layersInAll_26 : decode cX5_layersInAll 26 = .ok (.ireturn, 1) := by decide +kernel
def kX5_layersInAll_0 (g : sk_G) (d ck sk : Nat) (Q : sk_P) : sk_K := o_i (0) (o_istore 1 (o_i (0) (o_istore 2 (sk_B (g, d, ck, sk, xX5_layersInAll, Q) 4))))
theorem tX5_layersInAll_0 {g : sk_G} {d ck sk : Nat} {Q : sk_P} : sk_S (g, d, ck, sk, xX5_layersInAll, Q) 0 (kX5_layersInAll_0 g d ck sk Q) := s_iconst dX5_layersInAll_0 (s_istore_n dX5_layersInAll_1 rfl (by decide : 1 < 3) (s_iconst dX5_layersInAll_2 (s_istore_n dX5_layersInAll_3 rfl (by decide : 2 < 3) (sk_id))))
def kX5_layersInAll_4 (g : sk_G) (d ck sk : Nat) (Q : sk_P) : sk_K := o_iload 2 (o_i (40) (o_icge (o_iload 1 (o_iret (g, d, ck, sk, xX5_layersInAll, Q))) (o_iload 1 (o_aload 0 (o_getf 5 1 (o_iload 2 (o_iaload (o_iadd (o_istore 1 (o_iinc 2 (1) (sk_B (g, d, ck, sk, xX5_layersInAll, Q) 4)))))))))))
theorem tX5_layersInAll_4 {g : sk_G} {d ck sk : Nat} {Q : sk_P} : sk_S (g, d, ck, sk, xX5_layersInAll, Q) 4 (kX5_layersInAll_4 g d ck sk Q) := s_iload_n dX5_layersInAll_4 rfl (s_bipush dX5_layersInAll_5 rfl (s_icge (tgt := 25) dX5_layersInAll_7 (by decide) (s_iload_n dX5_layersInAll_25 rfl (s_iret dX5_layersInAll_26 rfl)) (s_iload_n dX5_layersInAll_10 rfl (s_aload_n dX5_layersInAll_11 rfl (s_getf (ci := 5) (j := 1) (C := RX5) (T := TX5) (N := 6) dX5_layersInAll_12 rfl (by decide) (by decide) qf_X5_15 (s_iload_n dX5_layersInAll_15 rfl (s_iaload dX5_layersInAll_16 (s_iadd dX5_layersInAll_17 (s_istore_n dX5_layersInAll_18 rfl (by decide : 1 < 3) (s_iinc dX5_layersInAll_19 (by decide : 2 < 3) (s_goto (tgt := 4) dX5_layersInAll_22 (by decide) (sk_id))))))))))))
theorem dX5_scrapeCell_0 : decode cX5_scrapeCell 0 = .ok (.aload_n 0, 1) := by decide +kernel
theorem dX5_scrapeCell_1 : decode cX5_scrapeCell 1 = .ok (.getfield 15, 3) := by decide +kernel
theorem dX5_scrapeCell_4 : decode cX5_scrapeCell 4 = .ok (.iload_n 1, 1) := by decide +kernel
theorem dX5_scrapeCell_5 : decode cX5_scrapeCell 5 = .ok (.iaload, 1) := by decide +kernel
theorem dX5_scrapeCell_6 : decode cX5_scrapeCell 6 = .ok (.istore_n 3, 1) := by decide +kernel
theorem dX5_scrapeCell_7 : decode cX5_scrapeCell 7 = .ok (.iload_n 2, 1) := by decide +kernel
theorem dX5_scrapeCell_8 : decode cX5_scrapeCell 8 = .ok (.istore 4, 2) := by decide +kernel
theorem dX5_scrapeCell_10 : decode cX5_scrapeCell 10 = .ok (.iload_n 3, 1) := by decide +kernel
theorem dX5_scrapeCell_11 : decode cX5_scrapeCell 11 = .ok (.iconst 1, 1) := by decide +kernel
theorem dX5_scrapeCell_12 : decode cX5_scrapeCell 12 = .ok (.isub, 1) := by decide +kernel
theorem dX5_scrapeCell_13 : decode cX5_scrapeCell 13 = .ok (.istore 5, 2) := by decide +kernel
theorem dX5_scrapeCell_15 : decode cX5_scrapeCell 15 = .ok (.iload 5, 2) := by decide +kernel
theorem dX5_scrapeCell_17 : decode cX5_scrapeCell 17 = .ok (.ifCond .lt 73, 3) := by decide +kernel
theorem dX5_scrapeCell_20 : decode cX5_scrapeCell 20 = .ok (.iload 4, 2) := by decide +kernel
theorem dX5_scrapeCell_22 : decode cX5_scrapeCell 22 = .ok (.ifCond .le 68, 3) := by decide +kernel
theorem dX5_scrapeCell_25 : decode cX5_scrapeCell 25 = .ok (.aload_n 0, 1) := by decide +kernel
theorem dX5_scrapeCell_26 : decode cX5_scrapeCell 26 = .ok (.iload_n 1, 1) := by decide +kernel
theorem dX5_scrapeCell_27 : decode cX5_scrapeCell 27 = .ok (.iload 5, 2) := by decide +kernel
theorem dX5_scrapeCell_29 : decode cX5_scrapeCell 29 = .ok (.invokevirtual 51, 3) := by decide +kernel
theorem dX5_scrapeCell_32 : decode cX5_scrapeCell 32 = .ok (.invokestatic 18, 3) := by decide +kernel
theorem dX5_scrapeCell_35 : decode cX5_scrapeCell 35 = .ok (.istore 6, 2) := by decide +kernel
theorem dX5_scrapeCell_37 : decode cX5_scrapeCell 37 = .ok (.iload 6, 2) := by decide +kernel
theorem dX5_scrapeCell_39 : decode cX5_scrapeCell 39 = .ok (.iload 4, 2) := by decide +kernel
theorem dX5_scrapeCell_41 : decode cX5_scrapeCell 41 = .ok (.if_icmp .le 28, 3) := by decide +kernel
theorem dX5_scrapeCell_44 : decode cX5_scrapeCell 44 = .ok (.aload_n 0, 1) := by decide +kernel
theorem dX5_scrapeCell_45 : decode cX5_scrapeCell 45 = .ok (.iload_n 1, 1) := by decide +kernel
theorem dX5_scrapeCell_46 : decode cX5_scrapeCell 46 = .ok (.iload 5, 2) := by decide +kernel
theorem dX5_scrapeCell_48 : decode cX5_scrapeCell 48 = .ok (.aload_n 0, 1) := by decide +kernel
theorem dX5_scrapeCell_49 : decode cX5_scrapeCell 49 = .ok (.iload_n 1, 1) := by decide +kernel
theorem dX5_scrapeCell_50 : decode cX5_scrapeCell 50 = .ok (.iload 5, 2) := by decide +kernel
theorem dX5_scrapeCell_52 : decode cX5_scrapeCell 52 = .ok (.invokevirtual 51, 3) := by decide +kernel
theorem dX5_scrapeCell_55 : decode cX5_scrapeCell 55 = .ok (.iload 6, 2) := by decide +kernel
theorem dX5_scrapeCell_57 : decode cX5_scrapeCell 57 = .ok (.iload 4, 2) := by decide +kernel
theorem dX5_scrapeCell_59 : decode cX5_scrapeCell 59 = .ok (.isub, 1) := by decide +kernel
theorem dX5_scrapeCell_60 : decode cX5_scrapeCell 60 = .ok (.invokestatic 55, 3) := by decide +kernel
theorem dX5_scrapeCell_63 : decode cX5_scrapeCell 63 = .ok (.invokevirtual 47, 3) := by decide +kernel
theorem dX5_scrapeCell_66 : decode cX5_scrapeCell 66 = .ok (.goto 11, 3) := by decide +kernel
theorem dX5_scrapeCell_69 : decode cX5_scrapeCell 69 = .ok (.aload_n 0, 1) := by decide +kernel
theorem dX5_scrapeCell_70 : decode cX5_scrapeCell 70 = .ok (.getfield 15, 3) := by decide +kernel
theorem dX5_scrapeCell_73 : decode cX5_scrapeCell 73 = .ok (.iload_n 1, 1) := by decide +kernel
theorem dX5_scrapeCell_74 : decode cX5_scrapeCell 74 = .ok (.iload 5, 2) := by decide +kernel
theorem dX5_scrapeCell_76 : decode cX5_scrapeCell 76 = .ok (.iastore, 1) := by decide +kernel
theorem dX5_scrapeCell_77 : decode cX5_scrapeCell 77 = .ok (.iload 4, 2) := by decide +kernel
theorem dX5_scrapeCell_79 : decode cX5_scrapeCell 79 = .ok (.iload 6, 2) := by decide +kernel
theorem dX5_scrapeCell_81 : decode cX5_scrapeCell 81 = .ok (.isub, 1) := by decide +kernel
theorem dX5_scrapeCell_82 : decode cX5_scrapeCell 82 = .ok (.istore 4, 2) := by decide +kernel
theorem dX5_scrapeCell_84 : decode cX5_scrapeCell 84 = .ok (.iinc 5 (-1), 3) := by decide +kernel
theorem dX5_scrapeCell_87 : decode cX5_scrapeCell 87 = .ok (.goto (-72), 3) := by decide +kernel
theorem dX5_scrapeCell_90 : decode cX5_scrapeCell 90 = .ok (.iload_n 3, 1) := by decide +kernel
theorem dX5_scrapeCell_91 : decode cX5_scrapeCell 91 = .ok (.aload_n 0, 1) := by decide +kernel
theorem dX5_scrapeCell_92 : decode cX5_scrapeCell 92 = .ok (.getfield 15, 3) := by decide +kernel
theorem dX5_scrapeCell_95 : decode cX5_scrapeCell 95 = .ok (.iload_n 1, 1) := by decide +kernel
theorem dX5_scrapeCell_96 : decode cX5_scrapeCell 96 = .ok (.iaload, 1) := by decide +kernel
theorem dX5_scrapeCell_97 : decode cX5_scrapeCell 97 = .ok (.isub, 1) := by decide +kernel
theorem dX5_scrapeCell_98 : decode cX5_scrapeCell 98 = .ok (.ireturn, 1) := by decide +kernel
def kX5_scrapeCell_0 (g : sk_G) (d ck sk : Nat) (Q : sk_P) : sk_K := o_aload 0 (o_getf 5 1 (o_iload 1 (o_iaload (o_istore 3 (o_iload 2 (o_istore 4 (o_iload 3 (o_i (1) (o_isub (o_istore 5 (sk_B (g, d, ck, sk, xX5_scrapeCell, Q) 15)))))))))))
theorem tX5_scrapeCell_0 {g : sk_G} {d ck sk : Nat} {Q : sk_P} : sk_S (g, d, ck, sk, xX5_scrapeCell, Q) 0 (kX5_scrapeCell_0 g d ck sk Q) := s_aload_n dX5_scrapeCell_0 rfl (s_getf (ci := 5) (j := 1) (C := RX5) (T := TX5) (N := 6) dX5_scrapeCell_1 rfl (by decide) (by decide) qf_X5_15 (s_iload_n dX5_scrapeCell_4 rfl (s_iaload dX5_scrapeCell_5 (s_istore_n dX5_scrapeCell_6 rfl (by decide : 3 < 7) (s_iload_n dX5_scrapeCell_7 rfl (s_istore dX5_scrapeCell_8 (by decide : 4 < 7) (s_iload_n dX5_scrapeCell_10 rfl (s_iconst dX5_scrapeCell_11 (s_isub dX5_scrapeCell_12 (s_istore dX5_scrapeCell_13 (by decide : 5 < 7) (sk_id)))))))))))
set_option maxRecDepth 20000 in
def kX5_scrapeCell_15 (g : sk_G) (d ck sk : Nat) (Q : sk_P) : sk_K := o_iload 5 (o_iflt (sk_B (g, d, ck, sk, xX5_scrapeCell, Q) 90) (o_iload 4 (o_ifle (sk_B (g, d, ck, sk, xX5_scrapeCell, Q) 90) (o_aload 0 (o_iload 1 (o_iload 5 (o_invT (g, d, ck, sk, xX5_scrapeCell, Q) 3 2 5 (fun Q => kX5_codeAt_0 g (d - 1) 0 0 Q) (o_stcT (g, d, ck, sk, xX5_scrapeCell, Q) 1 1 (fun Q => kX5_strengthIn_0 g (d - 1) 0 0 Q) (o_istore 6 (o_iload 6 (o_iload 4 (o_icle (o_aload 0 (o_getf 5 1 (o_iload 1 (o_iload 5 (o_iastore (o_iload 4 (o_iload 6 (o_isub (o_istore 4 (o_iinc 5 (-1) (sk_B (g, d, ck, sk, xX5_scrapeCell, Q) 15))))))))))) (o_aload 0 (o_iload 1 (o_iload 5 (o_aload 0 (o_iload 1 (o_iload 5 (o_invT (g, d, ck, sk, xX5_scrapeCell, Q) 3 2 5 (fun Q => kX5_codeAt_0 g (d - 1) 0 0 Q) (o_iload 6 (o_iload 4 (o_isub (o_stcT (g, d, ck, sk, xX5_scrapeCell, Q) 2 2 (fun Q => kX5_weakened_0 g (d - 1) 0 0 Q) (o_invT (g, d, ck, sk, xX5_scrapeCell, Q) 4 3 5 (fun Q => kX5_put_0 g (d - 1) 0 0 Q) (o_iload 4 (o_iload 6 (o_isub (o_istore 4 (o_iinc 5 (-1) (sk_B (g, d, ck, sk, xX5_scrapeCell, Q) 15))))))))))))))))))))))))))))))
set_option maxRecDepth 20000 in
theorem tX5_scrapeCell_15 {g : sk_G} {d ck sk : Nat} {Q : sk_P} : sk_S (g, d, ck, sk, xX5_scrapeCell, Q) 15 (kX5_scrapeCell_15 g d ck sk Q) := s_iload dX5_scrapeCell_15 (s_iflt (tgt := 90) dX5_scrapeCell_17 (by decide) (sk_id) (s_iload dX5_scrapeCell_20 (s_ifle (tgt := 90) dX5_scrapeCell_22 (by decide) (sk_id) (s_aload_n dX5_scrapeCell_25 rfl (s_iload_n dX5_scrapeCell_26 rfl (s_iload dX5_scrapeCell_27 (s_invT (X := xX5_codeAt) (ci := 5) (T := TX5) (N := 6) (K := (fun Q => kX5_codeAt_0 g (d - 1) 0 0 Q)) (fun _ => tX5_codeAt_0) rfl dX5_scrapeCell_29 m_X5_codeAt rfl (by decide) qm_X5_51 qi_X5_codeAt qe_X5_codeAt (s_stcT (X := xX5_strengthIn) (K := (fun Q => kX5_strengthIn_0 g (d - 1) 0 0 Q)) (fun _ => tX5_strengthIn_0) rfl dX5_scrapeCell_32 m_X5_strengthIn qm_X5_18 qs_X5_strengthIn (s_istore dX5_scrapeCell_35 (by decide : 6 < 7) (s_iload dX5_scrapeCell_37 (s_iload dX5_scrapeCell_39 (s_icle (tgt := 69) dX5_scrapeCell_41 (by decide) (s_aload_n dX5_scrapeCell_69 rfl (s_getf (ci := 5) (j := 1) (C := RX5) (T := TX5) (N := 6) dX5_scrapeCell_70 rfl (by decide) (by decide) qf_X5_15 (s_iload_n dX5_scrapeCell_73 rfl (s_iload dX5_scrapeCell_74 (s_iastore dX5_scrapeCell_76 (s_iload dX5_scrapeCell_77 (s_iload dX5_scrapeCell_79 (s_isub dX5_scrapeCell_81 (s_istore dX5_scrapeCell_82 (by decide : 4 < 7) (s_iinc dX5_scrapeCell_84 (by decide : 5 < 7) (s_goto (tgt := 15) dX5_scrapeCell_87 (by decide) (sk_id)))))))))))) (s_aload_n dX5_scrapeCell_44 rfl (s_iload_n dX5_scrapeCell_45 rfl (s_iload dX5_scrapeCell_46 (s_aload_n dX5_scrapeCell_48 rfl (s_iload_n dX5_scrapeCell_49 rfl (s_iload dX5_scrapeCell_50 (s_invT (X := xX5_codeAt) (ci := 5) (T := TX5) (N := 6) (K := (fun Q => kX5_codeAt_0 g (d - 1) 0 0 Q)) (fun _ => tX5_codeAt_0) rfl dX5_scrapeCell_52 m_X5_codeAt rfl (by decide) qm_X5_51 qi_X5_codeAt qe_X5_codeAt (s_iload dX5_scrapeCell_55 (s_iload dX5_scrapeCell_57 (s_isub dX5_scrapeCell_59 (s_stcT (X := xX5_weakened) (K := (fun Q => kX5_weakened_0 g (d - 1) 0 0 Q)) (fun _ => tX5_weakened_0) rfl dX5_scrapeCell_60 m_X5_weakened qm_X5_55 qs_X5_weakened (s_invT (X := xX5_put) (ci := 5) (T := TX5) (N := 6) (K := (fun Q => kX5_put_0 g (d - 1) 0 0 Q)) (fun _ => tX5_put_0) rfl dX5_scrapeCell_63 m_X5_put rfl (by decide) qm_X5_47 qi_X5_put qe_X5_put (s_goto (tgt := 77) dX5_scrapeCell_66 (by decide) (s_iload dX5_scrapeCell_77 (s_iload dX5_scrapeCell_79 (s_isub dX5_scrapeCell_81 (s_istore dX5_scrapeCell_82 (by decide : 4 < 7) (s_iinc dX5_scrapeCell_84 (by decide : 5 < 7) (s_goto (tgt := 15) dX5_scrapeCell_87 (by decide) (sk_id))))))))))))))))))))))))))))))))
def kX5_scrapeCell_90 (g : sk_G) (d ck sk : Nat) (Q : sk_P) : sk_K := o_iload 3 (o_aload 0 (o_getf 5 1 (o_iload 1 (o_iaload (o_isub (o_iret (g, d, ck, sk, xX5_scrapeCell, Q)))))))
theorem tX5_scrapeCell_90 {g : sk_G} {d ck sk : Nat} {Q : sk_P} : sk_S (g, d, ck, sk, xX5_scrapeCell, Q) 90 (kX5_scrapeCell_90 g d ck sk Q) := s_iload_n dX5_scrapeCell_90 rfl (s_aload_n dX5_scrapeCell_91 rfl (s_getf (ci := 5) (j := 1) (C := RX5) (T := TX5) (N := 6) dX5_scrapeCell_92 rfl (by decide) (by decide) qf_X5_15 (s_iload_n dX5_scrapeCell_95 rfl (s_iaload dX5_scrapeCell_96 (s_isub dX5_scrapeCell_97 (s_iret dX5_scrapeCell_98 rfl))))))
theorem dX5_strengthInAll_0 : decode cX5_strengthInAll 0 = .ok (.iconst 0, 1) := by decide +kernel
theorem dX5_strengthInAll_1 : decode cX5_strengthInAll 1 = .ok (.istore_n 1, 1) := by decide +kernel
theorem dX5_strengthInAll_2 : decode cX5_strengthInAll 2 = .ok (.iconst 0, 1) := by decide +kernel
theorem dX5_strengthInAll_3 : decode cX5_strengthInAll 3 = .ok (.istore_n 2, 1) := by decide +kernel
theorem dX5_strengthInAll_4 : decode cX5_strengthInAll 4 = .ok (.iload_n 2, 1) := by decide +kernel
theorem dX5_strengthInAll_5 : decode cX5_strengthInAll 5 = .ok (.iconst 4, 1) := by decide +kernel
theorem dX5_strengthInAll_6 : decode cX5_strengthInAll 6 = .ok (.if_icmp .ge 17, 3) := by decide +kernel
theorem dX5_strengthInAll_9 : decode cX5_strengthInAll 9 = .ok (.iload_n 1, 1) := by decide +kernel
theorem dX5_strengthInAll_10 : decode cX5_strengthInAll 10 = .ok (.aload_n 0, 1) := by decide +kernel
theorem dX5_strengthInAll_11 : decode cX5_strengthInAll 11 = .ok (.iload_n 2, 1) := by decide +kernel
theorem dX5_strengthInAll_12 : decode cX5_strengthInAll 12 = .ok (.invokevirtual 70, 3) := by decide +kernel
theorem dX5_strengthInAll_15 : decode cX5_strengthInAll 15 = .ok (.iadd, 1) := by decide +kernel
theorem dX5_strengthInAll_16 : decode cX5_strengthInAll 16 = .ok (.istore_n 1, 1) := by decide +kernel
theorem dX5_strengthInAll_17 : decode cX5_strengthInAll 17 = .ok (.iinc 2 1, 3) := by decide +kernel
theorem dX5_strengthInAll_20 : decode cX5_strengthInAll 20 = .ok (.goto (-16), 3) := by decide +kernel
theorem dX5_strengthInAll_23 : decode cX5_strengthInAll 23 = .ok (.iload_n 1, 1) := by decide +kernel
theorem dX5_strengthInAll_24 : decode cX5_strengthInAll 24 = .ok (.ireturn, 1) := by decide +kernel
def kX5_strengthInAll_0 (g : sk_G) (d ck sk : Nat) (Q : sk_P) : sk_K := o_i (0) (o_istore 1 (o_i (0) (o_istore 2 (sk_B (g, d, ck, sk, xX5_strengthInAll, Q) 4))))
theorem tX5_strengthInAll_0 {g : sk_G} {d ck sk : Nat} {Q : sk_P} : sk_S (g, d, ck, sk, xX5_strengthInAll, Q) 0 (kX5_strengthInAll_0 g d ck sk Q) := s_iconst dX5_strengthInAll_0 (s_istore_n dX5_strengthInAll_1 rfl (by decide : 1 < 3) (s_iconst dX5_strengthInAll_2 (s_istore_n dX5_strengthInAll_3 rfl (by decide : 2 < 3) (sk_id))))
set_option maxRecDepth 20000 in
def kX5_strengthInAll_4 (g : sk_G) (d ck sk : Nat) (Q : sk_P) : sk_K := o_iload 2 (o_i (4) (o_icge (o_iload 1 (o_iret (g, d, ck, sk, xX5_strengthInAll, Q))) (o_iload 1 (o_aload 0 (o_iload 2 (o_invB (g, d, ck, sk, xX5_strengthInAll, Q) xX5_strengthOf 1 5 0 0 (o_iadd (o_istore 1 (o_iinc 2 (1) (sk_B (g, d, ck, sk, xX5_strengthInAll, Q) 4))))))))))
set_option maxRecDepth 20000 in
theorem tX5_strengthInAll_4 {g : sk_G} {d ck sk : Nat} {Q : sk_P} : sk_S (g, d, ck, sk, xX5_strengthInAll, Q) 4 (kX5_strengthInAll_4 g d ck sk Q) := s_iload_n dX5_strengthInAll_4 rfl (s_iconst dX5_strengthInAll_5 (s_icge (tgt := 23) dX5_strengthInAll_6 (by decide) (s_iload_n dX5_strengthInAll_23 rfl (s_iret dX5_strengthInAll_24 rfl)) (s_iload_n dX5_strengthInAll_9 rfl (s_aload_n dX5_strengthInAll_10 rfl (s_iload_n dX5_strengthInAll_11 rfl (s_invB (w' := (g, d, ck, sk, xX5_strengthInAll, Q)) (ci := 5) (ck := 0) (sk := 0) (T := TX5) (N := 6) dX5_strengthInAll_12 m_X5_strengthOf rfl (by decide) qm_X5_70 qi_X5_strengthOf qe_X5_strengthOf rfl (s_iadd dX5_strengthInAll_15 (s_istore_n dX5_strengthInAll_16 rfl (by decide : 1 < 3) (s_iinc dX5_strengthInAll_17 (by decide : 2 < 3) (s_goto (tgt := 4) dX5_strengthInAll_20 (by decide) (sk_id)))))))))))
theorem dX5_strengthOf_0 : decode cX5_strengthOf 0 = .ok (.iconst 0, 1) := by decide +kernel
theorem dX5_strengthOf_1 : decode cX5_strengthOf 1 = .ok (.istore_n 2, 1) := by decide +kernel
theorem dX5_strengthOf_2 : decode cX5_strengthOf 2 = .ok (.iconst 0, 1) := by decide +kernel
theorem dX5_strengthOf_3 : decode cX5_strengthOf 3 = .ok (.istore_n 3, 1) := by decide +kernel
theorem dX5_strengthOf_4 : decode cX5_strengthOf 4 = .ok (.iload_n 3, 1) := by decide +kernel
theorem dX5_strengthOf_5 : decode cX5_strengthOf 5 = .ok (.bipush 40, 2) := by decide +kernel
theorem dX5_strengthOf_7 : decode cX5_strengthOf 7 = .ok (.if_icmp .ge 60, 3) := by decide +kernel
theorem dX5_strengthOf_10 : decode cX5_strengthOf 10 = .ok (.iconst 0, 1) := by decide +kernel
theorem dX5_strengthOf_11 : decode cX5_strengthOf 11 = .ok (.istore 4, 2) := by decide +kernel
theorem dX5_strengthOf_13 : decode cX5_strengthOf 13 = .ok (.iload 4, 2) := by decide +kernel
theorem dX5_strengthOf_15 : decode cX5_strengthOf 15 = .ok (.aload_n 0, 1) := by decide +kernel
theorem dX5_strengthOf_16 : decode cX5_strengthOf 16 = .ok (.getfield 15, 3) := by decide +kernel
theorem dX5_strengthOf_19 : decode cX5_strengthOf 19 = .ok (.iload_n 3, 1) := by decide +kernel
theorem dX5_strengthOf_20 : decode cX5_strengthOf 20 = .ok (.iaload, 1) := by decide +kernel
theorem dX5_strengthOf_21 : decode cX5_strengthOf 21 = .ok (.if_icmp .ge 40, 3) := by decide +kernel
theorem dX5_strengthOf_24 : decode cX5_strengthOf 24 = .ok (.iload_n 2, 1) := by decide +kernel
theorem dX5_strengthOf_25 : decode cX5_strengthOf 25 = .ok (.aload_n 0, 1) := by decide +kernel
theorem dX5_strengthOf_26 : decode cX5_strengthOf 26 = .ok (.iload_n 3, 1) := by decide +kernel
theorem dX5_strengthOf_27 : decode cX5_strengthOf 27 = .ok (.iload 4, 2) := by decide +kernel
theorem dX5_strengthOf_29 : decode cX5_strengthOf 29 = .ok (.invokevirtual 51, 3) := by decide +kernel
theorem dX5_strengthOf_32 : decode cX5_strengthOf 32 = .ok (.invokestatic 67, 3) := by decide +kernel
theorem dX5_strengthOf_35 : decode cX5_strengthOf 35 = .ok (.iload_n 1, 1) := by decide +kernel
theorem dX5_strengthOf_36 : decode cX5_strengthOf 36 = .ok (.if_icmp .ne 16, 3) := by decide +kernel
theorem dX5_strengthOf_39 : decode cX5_strengthOf 39 = .ok (.aload_n 0, 1) := by decide +kernel
theorem dX5_strengthOf_40 : decode cX5_strengthOf 40 = .ok (.iload_n 3, 1) := by decide +kernel
theorem dX5_strengthOf_41 : decode cX5_strengthOf 41 = .ok (.iload 4, 2) := by decide +kernel
theorem dX5_strengthOf_43 : decode cX5_strengthOf 43 = .ok (.invokevirtual 51, 3) := by decide +kernel
theorem dX5_strengthOf_46 : decode cX5_strengthOf 46 = .ok (.invokestatic 18, 3) := by decide +kernel
theorem dX5_strengthOf_49 : decode cX5_strengthOf 49 = .ok (.goto 4, 3) := by decide +kernel
theorem dX5_strengthOf_52 : decode cX5_strengthOf 52 = .ok (.iconst 0, 1) := by decide +kernel
theorem dX5_strengthOf_53 : decode cX5_strengthOf 53 = .ok (.iadd, 1) := by decide +kernel
theorem dX5_strengthOf_54 : decode cX5_strengthOf 54 = .ok (.istore_n 2, 1) := by decide +kernel
theorem dX5_strengthOf_55 : decode cX5_strengthOf 55 = .ok (.iinc 4 1, 3) := by decide +kernel
theorem dX5_strengthOf_58 : decode cX5_strengthOf 58 = .ok (.goto (-45), 3) := by decide +kernel
theorem dX5_strengthOf_61 : decode cX5_strengthOf 61 = .ok (.iinc 3 1, 3) := by decide +kernel
theorem dX5_strengthOf_64 : decode cX5_strengthOf 64 = .ok (.goto (-60), 3) := by decide +kernel
theorem dX5_strengthOf_67 : decode cX5_strengthOf 67 = .ok (.iload_n 2, 1) := by decide +kernel
theorem dX5_strengthOf_68 : decode cX5_strengthOf 68 = .ok (.ireturn, 1) := by decide +kernel
def kX5_strengthOf_0 (g : sk_G) (d ck sk : Nat) (Q : sk_P) : sk_K := o_i (0) (o_istore 2 (o_i (0) (o_istore 3 (sk_B (g, d, ck, sk, xX5_strengthOf, Q) 4))))
theorem tX5_strengthOf_0 {g : sk_G} {d ck sk : Nat} {Q : sk_P} : sk_S (g, d, ck, sk, xX5_strengthOf, Q) 0 (kX5_strengthOf_0 g d ck sk Q) := s_iconst dX5_strengthOf_0 (s_istore_n dX5_strengthOf_1 rfl (by decide : 2 < 5) (s_iconst dX5_strengthOf_2 (s_istore_n dX5_strengthOf_3 rfl (by decide : 3 < 5) (sk_id))))
def kX5_strengthOf_4 (g : sk_G) (d ck sk : Nat) (Q : sk_P) : sk_K := o_iload 3 (o_i (40) (o_icge (o_iload 2 (o_iret (g, d, ck, sk, xX5_strengthOf, Q))) (o_i (0) (o_istore 4 (sk_B (g, d, ck, sk, xX5_strengthOf, Q) 13)))))
theorem tX5_strengthOf_4 {g : sk_G} {d ck sk : Nat} {Q : sk_P} : sk_S (g, d, ck, sk, xX5_strengthOf, Q) 4 (kX5_strengthOf_4 g d ck sk Q) := s_iload_n dX5_strengthOf_4 rfl (s_bipush dX5_strengthOf_5 rfl (s_icge (tgt := 67) dX5_strengthOf_7 (by decide) (s_iload_n dX5_strengthOf_67 rfl (s_iret dX5_strengthOf_68 rfl)) (s_iconst dX5_strengthOf_10 (s_istore dX5_strengthOf_11 (by decide : 4 < 5) (sk_id)))))
set_option maxRecDepth 20000 in
def kX5_strengthOf_13 (g : sk_G) (d ck sk : Nat) (Q : sk_P) : sk_K := o_iload 4 (o_aload 0 (o_getf 5 1 (o_iload 3 (o_iaload (o_icge (o_iinc 3 (1) (sk_B (g, d, ck, sk, xX5_strengthOf, Q) 4)) (o_iload 2 (o_aload 0 (o_iload 3 (o_iload 4 (o_invT (g, d, ck, sk, xX5_strengthOf, Q) 3 2 5 (fun Q => kX5_codeAt_0 g (d - 1) 0 0 Q) (o_stcT (g, d, ck, sk, xX5_strengthOf, Q) 1 1 (fun Q => kX5_handIn_0 g (d - 1) 0 0 Q) (o_iload 1 (o_icne (o_i (0) (o_iadd (o_istore 2 (o_iinc 4 (1) (sk_B (g, d, ck, sk, xX5_strengthOf, Q) 13))))) (o_aload 0 (o_iload 3 (o_iload 4 (o_invT (g, d, ck, sk, xX5_strengthOf, Q) 3 2 5 (fun Q => kX5_codeAt_0 g (d - 1) 0 0 Q) (o_stcT (g, d, ck, sk, xX5_strengthOf, Q) 1 1 (fun Q => kX5_strengthIn_0 g (d - 1) 0 0 Q) (o_iadd (o_istore 2 (o_iinc 4 (1) (sk_B (g, d, ck, sk, xX5_strengthOf, Q) 13))))))))))))))))))))))
set_option maxRecDepth 20000 in
theorem tX5_strengthOf_13 {g : sk_G} {d ck sk : Nat} {Q : sk_P} : sk_S (g, d, ck, sk, xX5_strengthOf, Q) 13 (kX5_strengthOf_13 g d ck sk Q) := s_iload dX5_strengthOf_13 (s_aload_n dX5_strengthOf_15 rfl (s_getf (ci := 5) (j := 1) (C := RX5) (T := TX5) (N := 6) dX5_strengthOf_16 rfl (by decide) (by decide) qf_X5_15 (s_iload_n dX5_strengthOf_19 rfl (s_iaload dX5_strengthOf_20 (s_icge (tgt := 61) dX5_strengthOf_21 (by decide) (s_iinc dX5_strengthOf_61 (by decide : 3 < 5) (s_goto (tgt := 4) dX5_strengthOf_64 (by decide) (sk_id))) (s_iload_n dX5_strengthOf_24 rfl (s_aload_n dX5_strengthOf_25 rfl (s_iload_n dX5_strengthOf_26 rfl (s_iload dX5_strengthOf_27 (s_invT (X := xX5_codeAt) (ci := 5) (T := TX5) (N := 6) (K := (fun Q => kX5_codeAt_0 g (d - 1) 0 0 Q)) (fun _ => tX5_codeAt_0) rfl dX5_strengthOf_29 m_X5_codeAt rfl (by decide) qm_X5_51 qi_X5_codeAt qe_X5_codeAt (s_stcT (X := xX5_handIn) (K := (fun Q => kX5_handIn_0 g (d - 1) 0 0 Q)) (fun _ => tX5_handIn_0) rfl dX5_strengthOf_32 m_X5_handIn qm_X5_67 qs_X5_handIn (s_iload_n dX5_strengthOf_35 rfl (s_icne (tgt := 52) dX5_strengthOf_36 (by decide) (s_iconst dX5_strengthOf_52 (s_iadd dX5_strengthOf_53 (s_istore_n dX5_strengthOf_54 rfl (by decide : 2 < 5) (s_iinc dX5_strengthOf_55 (by decide : 4 < 5) (s_goto (tgt := 13) dX5_strengthOf_58 (by decide) (sk_id)))))) (s_aload_n dX5_strengthOf_39 rfl (s_iload_n dX5_strengthOf_40 rfl (s_iload dX5_strengthOf_41 (s_invT (X := xX5_codeAt) (ci := 5) (T := TX5) (N := 6) (K := (fun Q => kX5_codeAt_0 g (d - 1) 0 0 Q)) (fun _ => tX5_codeAt_0) rfl dX5_strengthOf_43 m_X5_codeAt rfl (by decide) qm_X5_51 qi_X5_codeAt qe_X5_codeAt (s_stcT (X := xX5_strengthIn) (K := (fun Q => kX5_strengthIn_0 g (d - 1) 0 0 Q)) (fun _ => tX5_strengthIn_0) rfl dX5_strengthOf_46 m_X5_strengthIn qm_X5_18 qs_X5_strengthIn (s_goto (tgt := 53) dX5_strengthOf_49 (by decide) (s_iadd dX5_strengthOf_53 (s_istore_n dX5_strengthOf_54 rfl (by decide : 2 < 5) (s_iinc dX5_strengthOf_55 (by decide : 4 < 5) (s_goto (tgt := 13) dX5_strengthOf_58 (by decide) (sk_id))))))))))))))))))))))))
theorem dX5_shown_0 : decode cX5_shown 0 = .ok (.aload_n 0, 1) := by decide +kernel
theorem dX5_shown_1 : decode cX5_shown 1 = .ok (.getfield 15, 3) := by decide +kernel
theorem dX5_shown_4 : decode cX5_shown 4 = .ok (.iload_n 1, 1) := by decide +kernel
theorem dX5_shown_5 : decode cX5_shown 5 = .ok (.iaload, 1) := by decide +kernel
theorem dX5_shown_6 : decode cX5_shown 6 = .ok (.istore_n 3, 1) := by decide +kernel
theorem dX5_shown_7 : decode cX5_shown 7 = .ok (.iload_n 3, 1) := by decide +kernel
theorem dX5_shown_8 : decode cX5_shown 8 = .ok (.ifCond .eq 18, 3) := by decide +kernel
theorem dX5_shown_11 : decode cX5_shown 11 = .ok (.aload_n 0, 1) := by decide +kernel
theorem dX5_shown_12 : decode cX5_shown 12 = .ok (.iload_n 1, 1) := by decide +kernel
theorem dX5_shown_13 : decode cX5_shown 13 = .ok (.iload_n 3, 1) := by decide +kernel
theorem dX5_shown_14 : decode cX5_shown 14 = .ok (.iconst 1, 1) := by decide +kernel
theorem dX5_shown_15 : decode cX5_shown 15 = .ok (.isub, 1) := by decide +kernel
theorem dX5_shown_16 : decode cX5_shown 16 = .ok (.invokevirtual 51, 3) := by decide +kernel
theorem dX5_shown_19 : decode cX5_shown 19 = .ok (.invokestatic 18, 3) := by decide +kernel
theorem dX5_shown_22 : decode cX5_shown 22 = .ok (.iload_n 2, 1) := by decide +kernel
theorem dX5_shown_23 : decode cX5_shown 23 = .ok (.if_icmp .ge 6, 3) := by decide +kernel
theorem dX5_shown_26 : decode cX5_shown 26 = .ok (.bipush 26, 2) := by decide +kernel
theorem dX5_shown_28 : decode cX5_shown 28 = .ok (.ireturn, 1) := by decide +kernel
theorem dX5_shown_29 : decode cX5_shown 29 = .ok (.aload_n 0, 1) := by decide +kernel
theorem dX5_shown_30 : decode cX5_shown 30 = .ok (.iload_n 1, 1) := by decide +kernel
theorem dX5_shown_31 : decode cX5_shown 31 = .ok (.iload_n 3, 1) := by decide +kernel
theorem dX5_shown_32 : decode cX5_shown 32 = .ok (.iconst 1, 1) := by decide +kernel
theorem dX5_shown_33 : decode cX5_shown 33 = .ok (.isub, 1) := by decide +kernel
theorem dX5_shown_34 : decode cX5_shown 34 = .ok (.invokevirtual 51, 3) := by decide +kernel
theorem dX5_shown_37 : decode cX5_shown 37 = .ok (.invokestatic 58, 3) := by decide +kernel
theorem dX5_shown_40 : decode cX5_shown 40 = .ok (.ireturn, 1) := by decide +kernel
set_option maxRecDepth 20000 in
def kX5_shown_0 (g : sk_G) (d ck sk : Nat) (Q : sk_P) : sk_K := o_aload 0 (o_getf 5 1 (o_iload 1 (o_iaload (o_istore 3 (o_iload 3 (o_ifeq (o_i (26) (o_iret (g, d, ck, sk, xX5_shown, Q))) (o_aload 0 (o_iload 1 (o_iload 3 (o_i (1) (o_isub (o_invT (g, d, ck, sk, xX5_shown, Q) 3 2 5 (fun Q => kX5_codeAt_0 g (d - 1) 0 0 Q) (o_stcT (g, d, ck, sk, xX5_shown, Q) 1 1 (fun Q => kX5_strengthIn_0 g (d - 1) 0 0 Q) (o_iload 2 (o_icge (o_aload 0 (o_iload 1 (o_iload 3 (o_i (1) (o_isub (o_invT (g, d, ck, sk, xX5_shown, Q) 3 2 5 (fun Q => kX5_codeAt_0 g (d - 1) 0 0 Q) (o_stcT (g, d, ck, sk, xX5_shown, Q) 1 1 (fun Q => kX5_letterIn_0 g (d - 1) 0 0 Q) (o_iret (g, d, ck, sk, xX5_shown, Q))))))))) (o_i (26) (o_iret (g, d, ck, sk, xX5_shown, Q))))))))))))))))))
set_option maxRecDepth 20000 in
theorem tX5_shown_0 {g : sk_G} {d ck sk : Nat} {Q : sk_P} : sk_S (g, d, ck, sk, xX5_shown, Q) 0 (kX5_shown_0 g d ck sk Q) := s_aload_n dX5_shown_0 rfl (s_getf (ci := 5) (j := 1) (C := RX5) (T := TX5) (N := 6) dX5_shown_1 rfl (by decide) (by decide) qf_X5_15 (s_iload_n dX5_shown_4 rfl (s_iaload dX5_shown_5 (s_istore_n dX5_shown_6 rfl (by decide : 3 < 4) (s_iload_n dX5_shown_7 rfl (s_ifeq (tgt := 26) dX5_shown_8 (by decide) (s_bipush dX5_shown_26 rfl (s_iret dX5_shown_28 rfl)) (s_aload_n dX5_shown_11 rfl (s_iload_n dX5_shown_12 rfl (s_iload_n dX5_shown_13 rfl (s_iconst dX5_shown_14 (s_isub dX5_shown_15 (s_invT (X := xX5_codeAt) (ci := 5) (T := TX5) (N := 6) (K := (fun Q => kX5_codeAt_0 g (d - 1) 0 0 Q)) (fun _ => tX5_codeAt_0) rfl dX5_shown_16 m_X5_codeAt rfl (by decide) qm_X5_51 qi_X5_codeAt qe_X5_codeAt (s_stcT (X := xX5_strengthIn) (K := (fun Q => kX5_strengthIn_0 g (d - 1) 0 0 Q)) (fun _ => tX5_strengthIn_0) rfl dX5_shown_19 m_X5_strengthIn qm_X5_18 qs_X5_strengthIn (s_iload_n dX5_shown_22 rfl (s_icge (tgt := 29) dX5_shown_23 (by decide) (s_aload_n dX5_shown_29 rfl (s_iload_n dX5_shown_30 rfl (s_iload_n dX5_shown_31 rfl (s_iconst dX5_shown_32 (s_isub dX5_shown_33 (s_invT (X := xX5_codeAt) (ci := 5) (T := TX5) (N := 6) (K := (fun Q => kX5_codeAt_0 g (d - 1) 0 0 Q)) (fun _ => tX5_codeAt_0) rfl dX5_shown_34 m_X5_codeAt rfl (by decide) qm_X5_51 qi_X5_codeAt qe_X5_codeAt (s_stcT (X := xX5_letterIn) (K := (fun Q => kX5_letterIn_0 g (d - 1) 0 0 Q)) (fun _ => tX5_letterIn_0) rfl dX5_shown_37 m_X5_letterIn qm_X5_58 qs_X5_letterIn (s_iret dX5_shown_40 rfl)))))))) (s_bipush dX5_shown_26 rfl (s_iret dX5_shown_28 rfl)))))))))))))))))
theorem dX5_hasBeneath_0 : decode cX5_hasBeneath 0 = .ok (.aload_n 0, 1) := by decide +kernel
theorem dX5_hasBeneath_1 : decode cX5_hasBeneath 1 = .ok (.iload_n 1, 1) := by decide +kernel
theorem dX5_hasBeneath_2 : decode cX5_hasBeneath 2 = .ok (.iload_n 2, 1) := by decide +kernel
theorem dX5_hasBeneath_3 : decode cX5_hasBeneath 3 = .ok (.invokevirtual 61, 3) := by decide +kernel
theorem dX5_hasBeneath_6 : decode cX5_hasBeneath 6 = .ok (.istore_n 3, 1) := by decide +kernel
theorem dX5_hasBeneath_7 : decode cX5_hasBeneath 7 = .ok (.iload_n 3, 1) := by decide +kernel
theorem dX5_hasBeneath_8 : decode cX5_hasBeneath 8 = .ok (.bipush 26, 2) := by decide +kernel
theorem dX5_hasBeneath_10 : decode cX5_hasBeneath 10 = .ok (.if_icmp .eq 17, 3) := by decide +kernel
theorem dX5_hasBeneath_13 : decode cX5_hasBeneath 13 = .ok (.iload_n 3, 1) := by decide +kernel
theorem dX5_hasBeneath_14 : decode cX5_hasBeneath 14 = .ok (.aload_n 0, 1) := by decide +kernel
theorem dX5_hasBeneath_15 : decode cX5_hasBeneath 15 = .ok (.iload_n 1, 1) := by decide +kernel
theorem dX5_hasBeneath_16 : decode cX5_hasBeneath 16 = .ok (.iload_n 2, 1) := by decide +kernel
theorem dX5_hasBeneath_17 : decode cX5_hasBeneath 17 = .ok (.invokevirtual 64, 3) := by decide +kernel
theorem dX5_hasBeneath_20 : decode cX5_hasBeneath 20 = .ok (.if_icmp .eq 7, 3) := by decide +kernel
theorem dX5_hasBeneath_23 : decode cX5_hasBeneath 23 = .ok (.iconst 1, 1) := by decide +kernel
theorem dX5_hasBeneath_24 : decode cX5_hasBeneath 24 = .ok (.goto 4, 3) := by decide +kernel
theorem dX5_hasBeneath_27 : decode cX5_hasBeneath 27 = .ok (.iconst 0, 1) := by decide +kernel
theorem dX5_hasBeneath_28 : decode cX5_hasBeneath 28 = .ok (.ireturn, 1) := by decide +kernel
set_option maxRecDepth 20000 in
def kX5_hasBeneath_0 (g : sk_G) (d ck sk : Nat) (Q : sk_P) : sk_K := o_aload 0 (o_iload 1 (o_iload 2 (o_invB (g, d, ck, sk, xX5_hasBeneath, Q) xX5_lit 2 5 0 0 (o_istore 3 (o_iload 3 (o_i (26) (o_iceq (o_i (0) (o_zret (g, d, ck, sk, xX5_hasBeneath, Q))) (o_iload 3 (o_aload 0 (o_iload 1 (o_iload 2 (o_invB (g, d, ck, sk, xX5_hasBeneath, Q) xX5_shown 2 5 0 0 (o_iceq (o_i (0) (o_zret (g, d, ck, sk, xX5_hasBeneath, Q))) (o_i (1) (o_zret (g, d, ck, sk, xX5_hasBeneath, Q))))))))))))))))
set_option maxRecDepth 20000 in
theorem tX5_hasBeneath_0 {g : sk_G} {d ck sk : Nat} {Q : sk_P} : sk_S (g, d, ck, sk, xX5_hasBeneath, Q) 0 (kX5_hasBeneath_0 g d ck sk Q) := s_aload_n dX5_hasBeneath_0 rfl (s_iload_n dX5_hasBeneath_1 rfl (s_iload_n dX5_hasBeneath_2 rfl (s_invB (w' := (g, d, ck, sk, xX5_hasBeneath, Q)) (ci := 5) (ck := 0) (sk := 0) (T := TX5) (N := 6) dX5_hasBeneath_3 m_X5_lit rfl (by decide) qm_X5_61 qi_X5_lit qe_X5_lit rfl (s_istore_n dX5_hasBeneath_6 rfl (by decide : 3 < 4) (s_iload_n dX5_hasBeneath_7 rfl (s_bipush dX5_hasBeneath_8 rfl (s_iceq (tgt := 27) dX5_hasBeneath_10 (by decide) (s_iconst dX5_hasBeneath_27 (s_zret dX5_hasBeneath_28 rfl)) (s_iload_n dX5_hasBeneath_13 rfl (s_aload_n dX5_hasBeneath_14 rfl (s_iload_n dX5_hasBeneath_15 rfl (s_iload_n dX5_hasBeneath_16 rfl (s_invB (w' := (g, d, ck, sk, xX5_hasBeneath, Q)) (ci := 5) (ck := 0) (sk := 0) (T := TX5) (N := 6) dX5_hasBeneath_17 m_X5_shown rfl (by decide) qm_X5_64 qi_X5_shown qe_X5_shown rfl (s_iceq (tgt := 27) dX5_hasBeneath_20 (by decide) (s_iconst dX5_hasBeneath_27 (s_zret dX5_hasBeneath_28 rfl)) (s_iconst dX5_hasBeneath_23 (s_goto (tgt := 28) dX5_hasBeneath_24 (by decide) (s_zret dX5_hasBeneath_28 rfl))))))))))))))))
theorem dX5_lit_0 : decode cX5_lit 0 = .ok (.iconst 0, 1) := by decide +kernel
theorem dX5_lit_1 : decode cX5_lit 1 = .ok (.istore_n 3, 1) := by decide +kernel
theorem dX5_lit_2 : decode cX5_lit 2 = .ok (.iload_n 3, 1) := by decide +kernel
theorem dX5_lit_3 : decode cX5_lit 3 = .ok (.aload_n 0, 1) := by decide +kernel
theorem dX5_lit_4 : decode cX5_lit 4 = .ok (.getfield 15, 3) := by decide +kernel
theorem dX5_lit_7 : decode cX5_lit 7 = .ok (.iload_n 1, 1) := by decide +kernel
theorem dX5_lit_8 : decode cX5_lit 8 = .ok (.iaload, 1) := by decide +kernel
theorem dX5_lit_9 : decode cX5_lit 9 = .ok (.if_icmp .ge 32, 3) := by decide +kernel
theorem dX5_lit_12 : decode cX5_lit 12 = .ok (.aload_n 0, 1) := by decide +kernel
theorem dX5_lit_13 : decode cX5_lit 13 = .ok (.iload_n 1, 1) := by decide +kernel
theorem dX5_lit_14 : decode cX5_lit 14 = .ok (.iload_n 3, 1) := by decide +kernel
theorem dX5_lit_15 : decode cX5_lit 15 = .ok (.invokevirtual 51, 3) := by decide +kernel
theorem dX5_lit_18 : decode cX5_lit 18 = .ok (.invokestatic 18, 3) := by decide +kernel
theorem dX5_lit_21 : decode cX5_lit 21 = .ok (.iload_n 2, 1) := by decide +kernel
theorem dX5_lit_22 : decode cX5_lit 22 = .ok (.if_icmp .lt 13, 3) := by decide +kernel
theorem dX5_lit_25 : decode cX5_lit 25 = .ok (.aload_n 0, 1) := by decide +kernel
theorem dX5_lit_26 : decode cX5_lit 26 = .ok (.iload_n 1, 1) := by decide +kernel
theorem dX5_lit_27 : decode cX5_lit 27 = .ok (.iload_n 3, 1) := by decide +kernel
theorem dX5_lit_28 : decode cX5_lit 28 = .ok (.invokevirtual 51, 3) := by decide +kernel
theorem dX5_lit_31 : decode cX5_lit 31 = .ok (.invokestatic 58, 3) := by decide +kernel
theorem dX5_lit_34 : decode cX5_lit 34 = .ok (.ireturn, 1) := by decide +kernel
theorem dX5_lit_35 : decode cX5_lit 35 = .ok (.iinc 3 1, 3) := by decide +kernel
theorem dX5_lit_38 : decode cX5_lit 38 = .ok (.goto (-36), 3) := by decide +kernel
theorem dX5_lit_41 : decode cX5_lit 41 = .ok (.bipush 26, 2) := by decide +kernel
theorem dX5_lit_43 : decode cX5_lit 43 = .ok (.ireturn, 1) := by decide +kernel
def kX5_lit_0 (g : sk_G) (d ck sk : Nat) (Q : sk_P) : sk_K := o_i (0) (o_istore 3 (sk_B (g, d, ck, sk, xX5_lit, Q) 2))
theorem tX5_lit_0 {g : sk_G} {d ck sk : Nat} {Q : sk_P} : sk_S (g, d, ck, sk, xX5_lit, Q) 0 (kX5_lit_0 g d ck sk Q) := s_iconst dX5_lit_0 (s_istore_n dX5_lit_1 rfl (by decide : 3 < 4) (sk_id))
set_option maxRecDepth 20000 in
def kX5_lit_2 (g : sk_G) (d ck sk : Nat) (Q : sk_P) : sk_K := o_iload 3 (o_aload 0 (o_getf 5 1 (o_iload 1 (o_iaload (o_icge (o_i (26) (o_iret (g, d, ck, sk, xX5_lit, Q))) (o_aload 0 (o_iload 1 (o_iload 3 (o_invT (g, d, ck, sk, xX5_lit, Q) 3 2 5 (fun Q => kX5_codeAt_0 g (d - 1) 0 0 Q) (o_stcT (g, d, ck, sk, xX5_lit, Q) 1 1 (fun Q => kX5_strengthIn_0 g (d - 1) 0 0 Q) (o_iload 2 (o_iclt (o_iinc 3 (1) (sk_B (g, d, ck, sk, xX5_lit, Q) 2)) (o_aload 0 (o_iload 1 (o_iload 3 (o_invT (g, d, ck, sk, xX5_lit, Q) 3 2 5 (fun Q => kX5_codeAt_0 g (d - 1) 0 0 Q) (o_stcT (g, d, ck, sk, xX5_lit, Q) 1 1 (fun Q => kX5_letterIn_0 g (d - 1) 0 0 Q) (o_iret (g, d, ck, sk, xX5_lit, Q)))))))))))))))))))
set_option maxRecDepth 20000 in
theorem tX5_lit_2 {g : sk_G} {d ck sk : Nat} {Q : sk_P} : sk_S (g, d, ck, sk, xX5_lit, Q) 2 (kX5_lit_2 g d ck sk Q) := s_iload_n dX5_lit_2 rfl (s_aload_n dX5_lit_3 rfl (s_getf (ci := 5) (j := 1) (C := RX5) (T := TX5) (N := 6) dX5_lit_4 rfl (by decide) (by decide) qf_X5_15 (s_iload_n dX5_lit_7 rfl (s_iaload dX5_lit_8 (s_icge (tgt := 41) dX5_lit_9 (by decide) (s_bipush dX5_lit_41 rfl (s_iret dX5_lit_43 rfl)) (s_aload_n dX5_lit_12 rfl (s_iload_n dX5_lit_13 rfl (s_iload_n dX5_lit_14 rfl (s_invT (X := xX5_codeAt) (ci := 5) (T := TX5) (N := 6) (K := (fun Q => kX5_codeAt_0 g (d - 1) 0 0 Q)) (fun _ => tX5_codeAt_0) rfl dX5_lit_15 m_X5_codeAt rfl (by decide) qm_X5_51 qi_X5_codeAt qe_X5_codeAt (s_stcT (X := xX5_strengthIn) (K := (fun Q => kX5_strengthIn_0 g (d - 1) 0 0 Q)) (fun _ => tX5_strengthIn_0) rfl dX5_lit_18 m_X5_strengthIn qm_X5_18 qs_X5_strengthIn (s_iload_n dX5_lit_21 rfl (s_iclt (tgt := 35) dX5_lit_22 (by decide) (s_iinc dX5_lit_35 (by decide : 3 < 4) (s_goto (tgt := 2) dX5_lit_38 (by decide) (sk_id))) (s_aload_n dX5_lit_25 rfl (s_iload_n dX5_lit_26 rfl (s_iload_n dX5_lit_27 rfl (s_invT (X := xX5_codeAt) (ci := 5) (T := TX5) (N := 6) (K := (fun Q => kX5_codeAt_0 g (d - 1) 0 0 Q)) (fun _ => tX5_codeAt_0) rfl dX5_lit_28 m_X5_codeAt rfl (by decide) qm_X5_51 qi_X5_codeAt qe_X5_codeAt (s_stcT (X := xX5_letterIn) (K := (fun Q => kX5_letterIn_0 g (d - 1) 0 0 Q)) (fun _ => tX5_letterIn_0) rfl dX5_lit_31 m_X5_letterIn qm_X5_58 qs_X5_letterIn (s_iret dX5_lit_34 rfl))))))))))))))))))
theorem dX5_isPure_0 : decode cX5_isPure 0 = .ok (.iconst 1, 1) := by decide +kernel
theorem dX5_isPure_1 : decode cX5_isPure 1 = .ok (.istore_n 2, 1) := by decide +kernel
theorem dX5_isPure_2 : decode cX5_isPure 2 = .ok (.iload_n 2, 1) := by decide +kernel
theorem dX5_isPure_3 : decode cX5_isPure 3 = .ok (.aload_n 0, 1) := by decide +kernel
theorem dX5_isPure_4 : decode cX5_isPure 4 = .ok (.getfield 15, 3) := by decide +kernel
theorem dX5_isPure_7 : decode cX5_isPure 7 = .ok (.iload_n 1, 1) := by decide +kernel
theorem dX5_isPure_8 : decode cX5_isPure 8 = .ok (.iaload, 1) := by decide +kernel
theorem dX5_isPure_9 : decode cX5_isPure 9 = .ok (.if_icmp .ge 32, 3) := by decide +kernel
theorem dX5_isPure_12 : decode cX5_isPure 12 = .ok (.aload_n 0, 1) := by decide +kernel
theorem dX5_isPure_13 : decode cX5_isPure 13 = .ok (.iload_n 1, 1) := by decide +kernel
theorem dX5_isPure_14 : decode cX5_isPure 14 = .ok (.iload_n 2, 1) := by decide +kernel
theorem dX5_isPure_15 : decode cX5_isPure 15 = .ok (.invokevirtual 51, 3) := by decide +kernel
theorem dX5_isPure_18 : decode cX5_isPure 18 = .ok (.invokestatic 67, 3) := by decide +kernel
theorem dX5_isPure_21 : decode cX5_isPure 21 = .ok (.aload_n 0, 1) := by decide +kernel
theorem dX5_isPure_22 : decode cX5_isPure 22 = .ok (.iload_n 1, 1) := by decide +kernel
theorem dX5_isPure_23 : decode cX5_isPure 23 = .ok (.iconst 0, 1) := by decide +kernel
theorem dX5_isPure_24 : decode cX5_isPure 24 = .ok (.invokevirtual 51, 3) := by decide +kernel
theorem dX5_isPure_27 : decode cX5_isPure 27 = .ok (.invokestatic 67, 3) := by decide +kernel
theorem dX5_isPure_30 : decode cX5_isPure 30 = .ok (.if_icmp .eq 5, 3) := by decide +kernel
theorem dX5_isPure_33 : decode cX5_isPure 33 = .ok (.iconst 0, 1) := by decide +kernel
theorem dX5_isPure_34 : decode cX5_isPure 34 = .ok (.ireturn, 1) := by decide +kernel
theorem dX5_isPure_35 : decode cX5_isPure 35 = .ok (.iinc 2 1, 3) := by decide +kernel
theorem dX5_isPure_38 : decode cX5_isPure 38 = .ok (.goto (-36), 3) := by decide +kernel
theorem dX5_isPure_41 : decode cX5_isPure 41 = .ok (.aload_n 0, 1) := by decide +kernel
theorem dX5_isPure_42 : decode cX5_isPure 42 = .ok (.getfield 15, 3) := by decide +kernel
theorem dX5_isPure_45 : decode cX5_isPure 45 = .ok (.iload_n 1, 1) := by decide +kernel
theorem dX5_isPure_46 : decode cX5_isPure 46 = .ok (.iaload, 1) := by decide +kernel
theorem dX5_isPure_47 : decode cX5_isPure 47 = .ok (.ifCond .le 7, 3) := by decide +kernel
theorem dX5_isPure_50 : decode cX5_isPure 50 = .ok (.iconst 1, 1) := by decide +kernel
theorem dX5_isPure_51 : decode cX5_isPure 51 = .ok (.goto 4, 3) := by decide +kernel
theorem dX5_isPure_54 : decode cX5_isPure 54 = .ok (.iconst 0, 1) := by decide +kernel
theorem dX5_isPure_55 : decode cX5_isPure 55 = .ok (.ireturn, 1) := by decide +kernel
def kX5_isPure_0 (g : sk_G) (d ck sk : Nat) (Q : sk_P) : sk_K := o_i (1) (o_istore 2 (sk_B (g, d, ck, sk, xX5_isPure, Q) 2))
theorem tX5_isPure_0 {g : sk_G} {d ck sk : Nat} {Q : sk_P} : sk_S (g, d, ck, sk, xX5_isPure, Q) 0 (kX5_isPure_0 g d ck sk Q) := s_iconst dX5_isPure_0 (s_istore_n dX5_isPure_1 rfl (by decide : 2 < 3) (sk_id))
set_option maxRecDepth 20000 in
def kX5_isPure_2 (g : sk_G) (d ck sk : Nat) (Q : sk_P) : sk_K := o_iload 2 (o_aload 0 (o_getf 5 1 (o_iload 1 (o_iaload (o_icge (o_aload 0 (o_getf 5 1 (o_iload 1 (o_iaload (o_ifle (o_i (0) (o_zret (g, d, ck, sk, xX5_isPure, Q))) (o_i (1) (o_zret (g, d, ck, sk, xX5_isPure, Q)))))))) (o_aload 0 (o_iload 1 (o_iload 2 (o_invT (g, d, ck, sk, xX5_isPure, Q) 3 2 5 (fun Q => kX5_codeAt_0 g (d - 1) 0 0 Q) (o_stcT (g, d, ck, sk, xX5_isPure, Q) 1 1 (fun Q => kX5_handIn_0 g (d - 1) 0 0 Q) (o_aload 0 (o_iload 1 (o_i (0) (o_invT (g, d, ck, sk, xX5_isPure, Q) 3 2 5 (fun Q => kX5_codeAt_0 g (d - 1) 0 0 Q) (o_stcT (g, d, ck, sk, xX5_isPure, Q) 1 1 (fun Q => kX5_handIn_0 g (d - 1) 0 0 Q) (o_iceq (o_iinc 2 (1) (sk_B (g, d, ck, sk, xX5_isPure, Q) 2)) (o_i (0) (o_zret (g, d, ck, sk, xX5_isPure, Q)))))))))))))))))))
set_option maxRecDepth 20000 in
theorem tX5_isPure_2 {g : sk_G} {d ck sk : Nat} {Q : sk_P} : sk_S (g, d, ck, sk, xX5_isPure, Q) 2 (kX5_isPure_2 g d ck sk Q) := s_iload_n dX5_isPure_2 rfl (s_aload_n dX5_isPure_3 rfl (s_getf (ci := 5) (j := 1) (C := RX5) (T := TX5) (N := 6) dX5_isPure_4 rfl (by decide) (by decide) qf_X5_15 (s_iload_n dX5_isPure_7 rfl (s_iaload dX5_isPure_8 (s_icge (tgt := 41) dX5_isPure_9 (by decide) (s_aload_n dX5_isPure_41 rfl (s_getf (ci := 5) (j := 1) (C := RX5) (T := TX5) (N := 6) dX5_isPure_42 rfl (by decide) (by decide) qf_X5_15 (s_iload_n dX5_isPure_45 rfl (s_iaload dX5_isPure_46 (s_ifle (tgt := 54) dX5_isPure_47 (by decide) (s_iconst dX5_isPure_54 (s_zret dX5_isPure_55 rfl)) (s_iconst dX5_isPure_50 (s_goto (tgt := 55) dX5_isPure_51 (by decide) (s_zret dX5_isPure_55 rfl)))))))) (s_aload_n dX5_isPure_12 rfl (s_iload_n dX5_isPure_13 rfl (s_iload_n dX5_isPure_14 rfl (s_invT (X := xX5_codeAt) (ci := 5) (T := TX5) (N := 6) (K := (fun Q => kX5_codeAt_0 g (d - 1) 0 0 Q)) (fun _ => tX5_codeAt_0) rfl dX5_isPure_15 m_X5_codeAt rfl (by decide) qm_X5_51 qi_X5_codeAt qe_X5_codeAt (s_stcT (X := xX5_handIn) (K := (fun Q => kX5_handIn_0 g (d - 1) 0 0 Q)) (fun _ => tX5_handIn_0) rfl dX5_isPure_18 m_X5_handIn qm_X5_67 qs_X5_handIn (s_aload_n dX5_isPure_21 rfl (s_iload_n dX5_isPure_22 rfl (s_iconst dX5_isPure_23 (s_invT (X := xX5_codeAt) (ci := 5) (T := TX5) (N := 6) (K := (fun Q => kX5_codeAt_0 g (d - 1) 0 0 Q)) (fun _ => tX5_codeAt_0) rfl dX5_isPure_24 m_X5_codeAt rfl (by decide) qm_X5_51 qi_X5_codeAt qe_X5_codeAt (s_stcT (X := xX5_handIn) (K := (fun Q => kX5_handIn_0 g (d - 1) 0 0 Q)) (fun _ => tX5_handIn_0) rfl dX5_isPure_27 m_X5_handIn qm_X5_67 qs_X5_handIn (s_iceq (tgt := 35) dX5_isPure_30 (by decide) (s_iinc dX5_isPure_35 (by decide : 2 < 3) (s_goto (tgt := 2) dX5_isPure_38 (by decide) (sk_id))) (s_iconst dX5_isPure_33 (s_zret dX5_isPure_34 rfl))))))))))))))))))
theorem dX5_verdict_0 : decode cX5_verdict 0 = .ok (.iconst 1, 1) := by decide +kernel
theorem dX5_verdict_1 : decode cX5_verdict 1 = .ok (.istore 4, 2) := by decide +kernel
theorem dX5_verdict_3 : decode cX5_verdict 3 = .ok (.iconst 0, 1) := by decide +kernel
theorem dX5_verdict_4 : decode cX5_verdict 4 = .ok (.istore 5, 2) := by decide +kernel
theorem dX5_verdict_6 : decode cX5_verdict 6 = .ok (.iload 5, 2) := by decide +kernel
theorem dX5_verdict_8 : decode cX5_verdict 8 = .ok (.aload_n 0, 1) := by decide +kernel
theorem dX5_verdict_9 : decode cX5_verdict 9 = .ok (.getfield 15, 3) := by decide +kernel
theorem dX5_verdict_12 : decode cX5_verdict 12 = .ok (.iload_n 1, 1) := by decide +kernel
theorem dX5_verdict_13 : decode cX5_verdict 13 = .ok (.iaload, 1) := by decide +kernel
theorem dX5_verdict_14 : decode cX5_verdict 14 = .ok (.if_icmp .ge 42, 3) := by decide +kernel
theorem dX5_verdict_17 : decode cX5_verdict 17 = .ok (.aload_n 0, 1) := by decide +kernel
theorem dX5_verdict_18 : decode cX5_verdict 18 = .ok (.iload_n 1, 1) := by decide +kernel
theorem dX5_verdict_19 : decode cX5_verdict 19 = .ok (.iload 5, 2) := by decide +kernel
theorem dX5_verdict_21 : decode cX5_verdict 21 = .ok (.invokevirtual 51, 3) := by decide +kernel
theorem dX5_verdict_24 : decode cX5_verdict 24 = .ok (.invokestatic 18, 3) := by decide +kernel
theorem dX5_verdict_27 : decode cX5_verdict 27 = .ok (.iload_n 3, 1) := by decide +kernel
theorem dX5_verdict_28 : decode cX5_verdict 28 = .ok (.if_icmp .lt 22, 3) := by decide +kernel
theorem dX5_verdict_31 : decode cX5_verdict 31 = .ok (.aload_n 0, 1) := by decide +kernel
theorem dX5_verdict_32 : decode cX5_verdict 32 = .ok (.iload_n 1, 1) := by decide +kernel
theorem dX5_verdict_33 : decode cX5_verdict 33 = .ok (.iload 5, 2) := by decide +kernel
theorem dX5_verdict_35 : decode cX5_verdict 35 = .ok (.invokevirtual 51, 3) := by decide +kernel
theorem dX5_verdict_38 : decode cX5_verdict 38 = .ok (.invokestatic 58, 3) := by decide +kernel
theorem dX5_verdict_41 : decode cX5_verdict 41 = .ok (.iload_n 2, 1) := by decide +kernel
theorem dX5_verdict_42 : decode cX5_verdict 42 = .ok (.if_icmp .ne 5, 3) := by decide +kernel
theorem dX5_verdict_45 : decode cX5_verdict 45 = .ok (.iconst 0, 1) := by decide +kernel
theorem dX5_verdict_46 : decode cX5_verdict 46 = .ok (.ireturn, 1) := by decide +kernel
theorem dX5_verdict_47 : decode cX5_verdict 47 = .ok (.iconst 2, 1) := by decide +kernel
theorem dX5_verdict_48 : decode cX5_verdict 48 = .ok (.istore 4, 2) := by decide +kernel
theorem dX5_verdict_50 : decode cX5_verdict 50 = .ok (.iinc 5 1, 3) := by decide +kernel
theorem dX5_verdict_53 : decode cX5_verdict 53 = .ok (.goto (-47), 3) := by decide +kernel
theorem dX5_verdict_56 : decode cX5_verdict 56 = .ok (.iload 4, 2) := by decide +kernel
theorem dX5_verdict_58 : decode cX5_verdict 58 = .ok (.ireturn, 1) := by decide +kernel
def kX5_verdict_0 (g : sk_G) (d ck sk : Nat) (Q : sk_P) : sk_K := o_i (1) (o_istore 4 (o_i (0) (o_istore 5 (sk_B (g, d, ck, sk, xX5_verdict, Q) 6))))
theorem tX5_verdict_0 {g : sk_G} {d ck sk : Nat} {Q : sk_P} : sk_S (g, d, ck, sk, xX5_verdict, Q) 0 (kX5_verdict_0 g d ck sk Q) := s_iconst dX5_verdict_0 (s_istore dX5_verdict_1 (by decide : 4 < 6) (s_iconst dX5_verdict_3 (s_istore dX5_verdict_4 (by decide : 5 < 6) (sk_id))))
set_option maxRecDepth 20000 in
def kX5_verdict_6 (g : sk_G) (d ck sk : Nat) (Q : sk_P) : sk_K := o_iload 5 (o_aload 0 (o_getf 5 1 (o_iload 1 (o_iaload (o_icge (o_iload 4 (o_iret (g, d, ck, sk, xX5_verdict, Q))) (o_aload 0 (o_iload 1 (o_iload 5 (o_invT (g, d, ck, sk, xX5_verdict, Q) 3 2 5 (fun Q => kX5_codeAt_0 g (d - 1) 0 0 Q) (o_stcT (g, d, ck, sk, xX5_verdict, Q) 1 1 (fun Q => kX5_strengthIn_0 g (d - 1) 0 0 Q) (o_iload 3 (o_iclt (o_iinc 5 (1) (sk_B (g, d, ck, sk, xX5_verdict, Q) 6)) (o_aload 0 (o_iload 1 (o_iload 5 (o_invT (g, d, ck, sk, xX5_verdict, Q) 3 2 5 (fun Q => kX5_codeAt_0 g (d - 1) 0 0 Q) (o_stcT (g, d, ck, sk, xX5_verdict, Q) 1 1 (fun Q => kX5_letterIn_0 g (d - 1) 0 0 Q) (o_iload 2 (o_icne (o_i (2) (o_istore 4 (o_iinc 5 (1) (sk_B (g, d, ck, sk, xX5_verdict, Q) 6)))) (o_i (0) (o_iret (g, d, ck, sk, xX5_verdict, Q))))))))))))))))))))))
set_option maxRecDepth 20000 in
theorem tX5_verdict_6 {g : sk_G} {d ck sk : Nat} {Q : sk_P} : sk_S (g, d, ck, sk, xX5_verdict, Q) 6 (kX5_verdict_6 g d ck sk Q) := s_iload dX5_verdict_6 (s_aload_n dX5_verdict_8 rfl (s_getf (ci := 5) (j := 1) (C := RX5) (T := TX5) (N := 6) dX5_verdict_9 rfl (by decide) (by decide) qf_X5_15 (s_iload_n dX5_verdict_12 rfl (s_iaload dX5_verdict_13 (s_icge (tgt := 56) dX5_verdict_14 (by decide) (s_iload dX5_verdict_56 (s_iret dX5_verdict_58 rfl)) (s_aload_n dX5_verdict_17 rfl (s_iload_n dX5_verdict_18 rfl (s_iload dX5_verdict_19 (s_invT (X := xX5_codeAt) (ci := 5) (T := TX5) (N := 6) (K := (fun Q => kX5_codeAt_0 g (d - 1) 0 0 Q)) (fun _ => tX5_codeAt_0) rfl dX5_verdict_21 m_X5_codeAt rfl (by decide) qm_X5_51 qi_X5_codeAt qe_X5_codeAt (s_stcT (X := xX5_strengthIn) (K := (fun Q => kX5_strengthIn_0 g (d - 1) 0 0 Q)) (fun _ => tX5_strengthIn_0) rfl dX5_verdict_24 m_X5_strengthIn qm_X5_18 qs_X5_strengthIn (s_iload_n dX5_verdict_27 rfl (s_iclt (tgt := 50) dX5_verdict_28 (by decide) (s_iinc dX5_verdict_50 (by decide : 5 < 6) (s_goto (tgt := 6) dX5_verdict_53 (by decide) (sk_id))) (s_aload_n dX5_verdict_31 rfl (s_iload_n dX5_verdict_32 rfl (s_iload dX5_verdict_33 (s_invT (X := xX5_codeAt) (ci := 5) (T := TX5) (N := 6) (K := (fun Q => kX5_codeAt_0 g (d - 1) 0 0 Q)) (fun _ => tX5_codeAt_0) rfl dX5_verdict_35 m_X5_codeAt rfl (by decide) qm_X5_51 qi_X5_codeAt qe_X5_codeAt (s_stcT (X := xX5_letterIn) (K := (fun Q => kX5_letterIn_0 g (d - 1) 0 0 Q)) (fun _ => tX5_letterIn_0) rfl dX5_verdict_38 m_X5_letterIn qm_X5_58 qs_X5_letterIn (s_iload_n dX5_verdict_41 rfl (s_icne (tgt := 47) dX5_verdict_42 (by decide) (s_iconst dX5_verdict_47 (s_istore dX5_verdict_48 (by decide : 4 < 6) (s_iinc dX5_verdict_50 (by decide : 5 < 6) (s_goto (tgt := 6) dX5_verdict_53 (by decide) (sk_id))))) (s_iconst dX5_verdict_45 (s_iret dX5_verdict_46 rfl)))))))))))))))))))))
theorem dX5_pairs_0 : decode cX5_pairs 0 = .ok (.iconst 0, 1) := by decide +kernel
theorem dX5_pairs_1 : decode cX5_pairs 1 = .ok (.istore_n 3, 1) := by decide +kernel
theorem dX5_pairs_2 : decode cX5_pairs 2 = .ok (.iconst 0, 1) := by decide +kernel
theorem dX5_pairs_3 : decode cX5_pairs 3 = .ok (.istore 4, 2) := by decide +kernel
theorem dX5_pairs_5 : decode cX5_pairs 5 = .ok (.iload 4, 2) := by decide +kernel
theorem dX5_pairs_7 : decode cX5_pairs 7 = .ok (.bipush 40, 2) := by decide +kernel
theorem dX5_pairs_9 : decode cX5_pairs 9 = .ok (.if_icmp .ge 77, 3) := by decide +kernel
theorem dX5_pairs_12 : decode cX5_pairs 12 = .ok (.iconst 0, 1) := by decide +kernel
theorem dX5_pairs_13 : decode cX5_pairs 13 = .ok (.istore 5, 2) := by decide +kernel
theorem dX5_pairs_15 : decode cX5_pairs 15 = .ok (.iconst 0, 1) := by decide +kernel
theorem dX5_pairs_16 : decode cX5_pairs 16 = .ok (.istore 6, 2) := by decide +kernel
theorem dX5_pairs_18 : decode cX5_pairs 18 = .ok (.iload 6, 2) := by decide +kernel
theorem dX5_pairs_20 : decode cX5_pairs 20 = .ok (.aload_n 0, 1) := by decide +kernel
theorem dX5_pairs_21 : decode cX5_pairs 21 = .ok (.getfield 15, 3) := by decide +kernel
theorem dX5_pairs_24 : decode cX5_pairs 24 = .ok (.iload 4, 2) := by decide +kernel
theorem dX5_pairs_26 : decode cX5_pairs 26 = .ok (.iaload, 1) := by decide +kernel
theorem dX5_pairs_27 : decode cX5_pairs 27 = .ok (.if_icmp .ge 53, 3) := by decide +kernel
theorem dX5_pairs_30 : decode cX5_pairs 30 = .ok (.aload_n 0, 1) := by decide +kernel
theorem dX5_pairs_31 : decode cX5_pairs 31 = .ok (.iload 4, 2) := by decide +kernel
theorem dX5_pairs_33 : decode cX5_pairs 33 = .ok (.iload 6, 2) := by decide +kernel
theorem dX5_pairs_35 : decode cX5_pairs 35 = .ok (.invokevirtual 51, 3) := by decide +kernel
theorem dX5_pairs_38 : decode cX5_pairs 38 = .ok (.invokestatic 67, 3) := by decide +kernel
theorem dX5_pairs_41 : decode cX5_pairs 41 = .ok (.istore 7, 2) := by decide +kernel
theorem dX5_pairs_43 : decode cX5_pairs 43 = .ok (.iload_n 3, 1) := by decide +kernel
theorem dX5_pairs_44 : decode cX5_pairs 44 = .ok (.iload 7, 2) := by decide +kernel
theorem dX5_pairs_46 : decode cX5_pairs 46 = .ok (.iload_n 1, 1) := by decide +kernel
theorem dX5_pairs_47 : decode cX5_pairs 47 = .ok (.if_icmp .ne 8, 3) := by decide +kernel
theorem dX5_pairs_50 : decode cX5_pairs 50 = .ok (.iload 5, 2) := by decide +kernel
theorem dX5_pairs_52 : decode cX5_pairs 52 = .ok (.goto 4, 3) := by decide +kernel
theorem dX5_pairs_55 : decode cX5_pairs 55 = .ok (.iconst 0, 1) := by decide +kernel
theorem dX5_pairs_56 : decode cX5_pairs 56 = .ok (.iadd, 1) := by decide +kernel
theorem dX5_pairs_57 : decode cX5_pairs 57 = .ok (.istore_n 3, 1) := by decide +kernel
theorem dX5_pairs_58 : decode cX5_pairs 58 = .ok (.iload 5, 2) := by decide +kernel
theorem dX5_pairs_60 : decode cX5_pairs 60 = .ok (.iload 7, 2) := by decide +kernel
theorem dX5_pairs_62 : decode cX5_pairs 62 = .ok (.iload_n 2, 1) := by decide +kernel
theorem dX5_pairs_63 : decode cX5_pairs 63 = .ok (.if_icmp .ne 7, 3) := by decide +kernel
theorem dX5_pairs_66 : decode cX5_pairs 66 = .ok (.iconst 1, 1) := by decide +kernel
theorem dX5_pairs_67 : decode cX5_pairs 67 = .ok (.goto 4, 3) := by decide +kernel
theorem dX5_pairs_70 : decode cX5_pairs 70 = .ok (.iconst 0, 1) := by decide +kernel
theorem dX5_pairs_71 : decode cX5_pairs 71 = .ok (.iadd, 1) := by decide +kernel
theorem dX5_pairs_72 : decode cX5_pairs 72 = .ok (.istore 5, 2) := by decide +kernel
theorem dX5_pairs_74 : decode cX5_pairs 74 = .ok (.iinc 6 1, 3) := by decide +kernel
theorem dX5_pairs_77 : decode cX5_pairs 77 = .ok (.goto (-59), 3) := by decide +kernel
theorem dX5_pairs_80 : decode cX5_pairs 80 = .ok (.iinc 4 1, 3) := by decide +kernel
theorem dX5_pairs_83 : decode cX5_pairs 83 = .ok (.goto (-78), 3) := by decide +kernel
theorem dX5_pairs_86 : decode cX5_pairs 86 = .ok (.iload_n 3, 1) := by decide +kernel
theorem dX5_pairs_87 : decode cX5_pairs 87 = .ok (.ireturn, 1) := by decide +kernel
def kX5_pairs_0 (g : sk_G) (d ck sk : Nat) (Q : sk_P) : sk_K := o_i (0) (o_istore 3 (o_i (0) (o_istore 4 (sk_B (g, d, ck, sk, xX5_pairs, Q) 5))))
theorem tX5_pairs_0 {g : sk_G} {d ck sk : Nat} {Q : sk_P} : sk_S (g, d, ck, sk, xX5_pairs, Q) 0 (kX5_pairs_0 g d ck sk Q) := s_iconst dX5_pairs_0 (s_istore_n dX5_pairs_1 rfl (by decide : 3 < 8) (s_iconst dX5_pairs_2 (s_istore dX5_pairs_3 (by decide : 4 < 8) (sk_id))))
def kX5_pairs_5 (g : sk_G) (d ck sk : Nat) (Q : sk_P) : sk_K := o_iload 4 (o_i (40) (o_icge (o_iload 3 (o_iret (g, d, ck, sk, xX5_pairs, Q))) (o_i (0) (o_istore 5 (o_i (0) (o_istore 6 (sk_B (g, d, ck, sk, xX5_pairs, Q) 18)))))))
theorem tX5_pairs_5 {g : sk_G} {d ck sk : Nat} {Q : sk_P} : sk_S (g, d, ck, sk, xX5_pairs, Q) 5 (kX5_pairs_5 g d ck sk Q) := s_iload dX5_pairs_5 (s_bipush dX5_pairs_7 rfl (s_icge (tgt := 86) dX5_pairs_9 (by decide) (s_iload_n dX5_pairs_86 rfl (s_iret dX5_pairs_87 rfl)) (s_iconst dX5_pairs_12 (s_istore dX5_pairs_13 (by decide : 5 < 8) (s_iconst dX5_pairs_15 (s_istore dX5_pairs_16 (by decide : 6 < 8) (sk_id)))))))
set_option maxRecDepth 20000 in
def kX5_pairs_18 (g : sk_G) (d ck sk : Nat) (Q : sk_P) : sk_K := o_iload 6 (o_aload 0 (o_getf 5 1 (o_iload 4 (o_iaload (o_icge (o_iinc 4 (1) (sk_B (g, d, ck, sk, xX5_pairs, Q) 5)) (o_aload 0 (o_iload 4 (o_iload 6 (o_invT (g, d, ck, sk, xX5_pairs, Q) 3 2 5 (fun Q => kX5_codeAt_0 g (d - 1) 0 0 Q) (o_stcT (g, d, ck, sk, xX5_pairs, Q) 1 1 (fun Q => kX5_handIn_0 g (d - 1) 0 0 Q) (o_istore 7 (o_iload 3 (o_iload 7 (o_iload 1 (o_icne (o_i (0) (sk_B (g, d, ck, sk, xX5_pairs, Q) 56)) (o_iload 5 (sk_B (g, d, ck, sk, xX5_pairs, Q) 56)))))))))))))))))
set_option maxRecDepth 20000 in
theorem tX5_pairs_18 {g : sk_G} {d ck sk : Nat} {Q : sk_P} : sk_S (g, d, ck, sk, xX5_pairs, Q) 18 (kX5_pairs_18 g d ck sk Q) := s_iload dX5_pairs_18 (s_aload_n dX5_pairs_20 rfl (s_getf (ci := 5) (j := 1) (C := RX5) (T := TX5) (N := 6) dX5_pairs_21 rfl (by decide) (by decide) qf_X5_15 (s_iload dX5_pairs_24 (s_iaload dX5_pairs_26 (s_icge (tgt := 80) dX5_pairs_27 (by decide) (s_iinc dX5_pairs_80 (by decide : 4 < 8) (s_goto (tgt := 5) dX5_pairs_83 (by decide) (sk_id))) (s_aload_n dX5_pairs_30 rfl (s_iload dX5_pairs_31 (s_iload dX5_pairs_33 (s_invT (X := xX5_codeAt) (ci := 5) (T := TX5) (N := 6) (K := (fun Q => kX5_codeAt_0 g (d - 1) 0 0 Q)) (fun _ => tX5_codeAt_0) rfl dX5_pairs_35 m_X5_codeAt rfl (by decide) qm_X5_51 qi_X5_codeAt qe_X5_codeAt (s_stcT (X := xX5_handIn) (K := (fun Q => kX5_handIn_0 g (d - 1) 0 0 Q)) (fun _ => tX5_handIn_0) rfl dX5_pairs_38 m_X5_handIn qm_X5_67 qs_X5_handIn (s_istore dX5_pairs_41 (by decide : 7 < 8) (s_iload_n dX5_pairs_43 rfl (s_iload dX5_pairs_44 (s_iload_n dX5_pairs_46 rfl (s_icne (tgt := 55) dX5_pairs_47 (by decide) (s_iconst dX5_pairs_55 (sk_id)) (s_iload dX5_pairs_50 (s_goto (tgt := 56) dX5_pairs_52 (by decide) (sk_id))))))))))))))))))
def kX5_pairs_56 (g : sk_G) (d ck sk : Nat) (Q : sk_P) : sk_K := o_iadd (o_istore 3 (o_iload 5 (o_iload 7 (o_iload 2 (o_icne (o_i (0) (o_iadd (o_istore 5 (o_iinc 6 (1) (sk_B (g, d, ck, sk, xX5_pairs, Q) 18))))) (o_i (1) (o_iadd (o_istore 5 (o_iinc 6 (1) (sk_B (g, d, ck, sk, xX5_pairs, Q) 18))))))))))
theorem tX5_pairs_56 {g : sk_G} {d ck sk : Nat} {Q : sk_P} : sk_S (g, d, ck, sk, xX5_pairs, Q) 56 (kX5_pairs_56 g d ck sk Q) := s_iadd dX5_pairs_56 (s_istore_n dX5_pairs_57 rfl (by decide : 3 < 8) (s_iload dX5_pairs_58 (s_iload dX5_pairs_60 (s_iload_n dX5_pairs_62 rfl (s_icne (tgt := 70) dX5_pairs_63 (by decide) (s_iconst dX5_pairs_70 (s_iadd dX5_pairs_71 (s_istore dX5_pairs_72 (by decide : 5 < 8) (s_iinc dX5_pairs_74 (by decide : 6 < 8) (s_goto (tgt := 18) dX5_pairs_77 (by decide) (sk_id)))))) (s_iconst dX5_pairs_66 (s_goto (tgt := 71) dX5_pairs_67 (by decide) (s_iadd dX5_pairs_71 (s_istore dX5_pairs_72 (by decide : 5 < 8) (s_iinc dX5_pairs_74 (by decide : 6 < 8) (s_goto (tgt := 18) dX5_pairs_77 (by decide) (sk_id))))))))))))
theorem dX5_hold_0 : decode cX5_hold 0 = .ok (.iconst 0, 1) := by decide +kernel
theorem dX5_hold_1 : decode cX5_hold 1 = .ok (.istore 4, 2) := by decide +kernel
theorem dX5_hold_3 : decode cX5_hold 3 = .ok (.iconst 0, 1) := by decide +kernel
theorem dX5_hold_4 : decode cX5_hold 4 = .ok (.istore 5, 2) := by decide +kernel
theorem dX5_hold_6 : decode cX5_hold 6 = .ok (.aload_n 0, 1) := by decide +kernel
theorem dX5_hold_7 : decode cX5_hold 7 = .ok (.getfield 15, 3) := by decide +kernel
theorem dX5_hold_10 : decode cX5_hold 10 = .ok (.iload_n 1, 1) := by decide +kernel
theorem dX5_hold_11 : decode cX5_hold 11 = .ok (.iaload, 1) := by decide +kernel
theorem dX5_hold_12 : decode cX5_hold 12 = .ok (.iconst 1, 1) := by decide +kernel
theorem dX5_hold_13 : decode cX5_hold 13 = .ok (.isub, 1) := by decide +kernel
theorem dX5_hold_14 : decode cX5_hold 14 = .ok (.istore 6, 2) := by decide +kernel
theorem dX5_hold_16 : decode cX5_hold 16 = .ok (.iload 6, 2) := by decide +kernel
theorem dX5_hold_18 : decode cX5_hold 18 = .ok (.ifCond .lt 59, 3) := by decide +kernel
theorem dX5_hold_21 : decode cX5_hold 21 = .ok (.aload_n 0, 1) := by decide +kernel
theorem dX5_hold_22 : decode cX5_hold 22 = .ok (.iload_n 1, 1) := by decide +kernel
theorem dX5_hold_23 : decode cX5_hold 23 = .ok (.iload 6, 2) := by decide +kernel
theorem dX5_hold_25 : decode cX5_hold 25 = .ok (.invokevirtual 51, 3) := by decide +kernel
theorem dX5_hold_28 : decode cX5_hold 28 = .ok (.invokestatic 18, 3) := by decide +kernel
theorem dX5_hold_31 : decode cX5_hold 31 = .ok (.istore 7, 2) := by decide +kernel
theorem dX5_hold_33 : decode cX5_hold 33 = .ok (.iload 7, 2) := by decide +kernel
theorem dX5_hold_35 : decode cX5_hold 35 = .ok (.iload_n 3, 1) := by decide +kernel
theorem dX5_hold_36 : decode cX5_hold 36 = .ok (.if_icmp .lt 28, 3) := by decide +kernel
theorem dX5_hold_39 : decode cX5_hold 39 = .ok (.aload_n 0, 1) := by decide +kernel
theorem dX5_hold_40 : decode cX5_hold 40 = .ok (.iload_n 1, 1) := by decide +kernel
theorem dX5_hold_41 : decode cX5_hold 41 = .ok (.iload 6, 2) := by decide +kernel
theorem dX5_hold_43 : decode cX5_hold 43 = .ok (.invokevirtual 51, 3) := by decide +kernel
theorem dX5_hold_46 : decode cX5_hold 46 = .ok (.invokestatic 58, 3) := by decide +kernel
theorem dX5_hold_49 : decode cX5_hold 49 = .ok (.iload_n 2, 1) := by decide +kernel
theorem dX5_hold_50 : decode cX5_hold 50 = .ok (.if_icmp .ne 14, 3) := by decide +kernel
theorem dX5_hold_53 : decode cX5_hold 53 = .ok (.iload 5, 2) := by decide +kernel
theorem dX5_hold_55 : decode cX5_hold 55 = .ok (.iload 7, 2) := by decide +kernel
theorem dX5_hold_57 : decode cX5_hold 57 = .ok (.iadd, 1) := by decide +kernel
theorem dX5_hold_58 : decode cX5_hold 58 = .ok (.iload_n 3, 1) := by decide +kernel
theorem dX5_hold_59 : decode cX5_hold 59 = .ok (.isub, 1) := by decide +kernel
theorem dX5_hold_60 : decode cX5_hold 60 = .ok (.iconst 1, 1) := by decide +kernel
theorem dX5_hold_61 : decode cX5_hold 61 = .ok (.iadd, 1) := by decide +kernel
theorem dX5_hold_62 : decode cX5_hold 62 = .ok (.istore 4, 2) := by decide +kernel
theorem dX5_hold_64 : decode cX5_hold 64 = .ok (.iload 5, 2) := by decide +kernel
theorem dX5_hold_66 : decode cX5_hold 66 = .ok (.iload 7, 2) := by decide +kernel
theorem dX5_hold_68 : decode cX5_hold 68 = .ok (.iadd, 1) := by decide +kernel
theorem dX5_hold_69 : decode cX5_hold 69 = .ok (.istore 5, 2) := by decide +kernel
theorem dX5_hold_71 : decode cX5_hold 71 = .ok (.iinc 6 (-1), 3) := by decide +kernel
theorem dX5_hold_74 : decode cX5_hold 74 = .ok (.goto (-58), 3) := by decide +kernel
theorem dX5_hold_77 : decode cX5_hold 77 = .ok (.iload 4, 2) := by decide +kernel
theorem dX5_hold_79 : decode cX5_hold 79 = .ok (.ireturn, 1) := by decide +kernel
def kX5_hold_0 (g : sk_G) (d ck sk : Nat) (Q : sk_P) : sk_K := o_i (0) (o_istore 4 (o_i (0) (o_istore 5 (o_aload 0 (o_getf 5 1 (o_iload 1 (o_iaload (o_i (1) (o_isub (o_istore 6 (sk_B (g, d, ck, sk, xX5_hold, Q) 16)))))))))))
theorem tX5_hold_0 {g : sk_G} {d ck sk : Nat} {Q : sk_P} : sk_S (g, d, ck, sk, xX5_hold, Q) 0 (kX5_hold_0 g d ck sk Q) := s_iconst dX5_hold_0 (s_istore dX5_hold_1 (by decide : 4 < 8) (s_iconst dX5_hold_3 (s_istore dX5_hold_4 (by decide : 5 < 8) (s_aload_n dX5_hold_6 rfl (s_getf (ci := 5) (j := 1) (C := RX5) (T := TX5) (N := 6) dX5_hold_7 rfl (by decide) (by decide) qf_X5_15 (s_iload_n dX5_hold_10 rfl (s_iaload dX5_hold_11 (s_iconst dX5_hold_12 (s_isub dX5_hold_13 (s_istore dX5_hold_14 (by decide : 6 < 8) (sk_id)))))))))))
set_option maxRecDepth 20000 in
def kX5_hold_16 (g : sk_G) (d ck sk : Nat) (Q : sk_P) : sk_K := o_iload 6 (o_iflt (o_iload 4 (o_iret (g, d, ck, sk, xX5_hold, Q))) (o_aload 0 (o_iload 1 (o_iload 6 (o_invT (g, d, ck, sk, xX5_hold, Q) 3 2 5 (fun Q => kX5_codeAt_0 g (d - 1) 0 0 Q) (o_stcT (g, d, ck, sk, xX5_hold, Q) 1 1 (fun Q => kX5_strengthIn_0 g (d - 1) 0 0 Q) (o_istore 7 (o_iload 7 (o_iload 3 (o_iclt (o_iload 5 (o_iload 7 (o_iadd (o_istore 5 (o_iinc 6 (-1) (sk_B (g, d, ck, sk, xX5_hold, Q) 16)))))) (o_aload 0 (o_iload 1 (o_iload 6 (o_invT (g, d, ck, sk, xX5_hold, Q) 3 2 5 (fun Q => kX5_codeAt_0 g (d - 1) 0 0 Q) (o_stcT (g, d, ck, sk, xX5_hold, Q) 1 1 (fun Q => kX5_letterIn_0 g (d - 1) 0 0 Q) (o_iload 2 (o_icne (o_iload 5 (o_iload 7 (o_iadd (o_istore 5 (o_iinc 6 (-1) (sk_B (g, d, ck, sk, xX5_hold, Q) 16)))))) (o_iload 5 (o_iload 7 (o_iadd (o_iload 3 (o_isub (o_i (1) (o_iadd (o_istore 4 (o_iload 5 (o_iload 7 (o_iadd (o_istore 5 (o_iinc 6 (-1) (sk_B (g, d, ck, sk, xX5_hold, Q) 16)))))))))))))))))))))))))))))))
set_option maxRecDepth 20000 in
theorem tX5_hold_16 {g : sk_G} {d ck sk : Nat} {Q : sk_P} : sk_S (g, d, ck, sk, xX5_hold, Q) 16 (kX5_hold_16 g d ck sk Q) := s_iload dX5_hold_16 (s_iflt (tgt := 77) dX5_hold_18 (by decide) (s_iload dX5_hold_77 (s_iret dX5_hold_79 rfl)) (s_aload_n dX5_hold_21 rfl (s_iload_n dX5_hold_22 rfl (s_iload dX5_hold_23 (s_invT (X := xX5_codeAt) (ci := 5) (T := TX5) (N := 6) (K := (fun Q => kX5_codeAt_0 g (d - 1) 0 0 Q)) (fun _ => tX5_codeAt_0) rfl dX5_hold_25 m_X5_codeAt rfl (by decide) qm_X5_51 qi_X5_codeAt qe_X5_codeAt (s_stcT (X := xX5_strengthIn) (K := (fun Q => kX5_strengthIn_0 g (d - 1) 0 0 Q)) (fun _ => tX5_strengthIn_0) rfl dX5_hold_28 m_X5_strengthIn qm_X5_18 qs_X5_strengthIn (s_istore dX5_hold_31 (by decide : 7 < 8) (s_iload dX5_hold_33 (s_iload_n dX5_hold_35 rfl (s_iclt (tgt := 64) dX5_hold_36 (by decide) (s_iload dX5_hold_64 (s_iload dX5_hold_66 (s_iadd dX5_hold_68 (s_istore dX5_hold_69 (by decide : 5 < 8) (s_iinc dX5_hold_71 (by decide : 6 < 8) (s_goto (tgt := 16) dX5_hold_74 (by decide) (sk_id))))))) (s_aload_n dX5_hold_39 rfl (s_iload_n dX5_hold_40 rfl (s_iload dX5_hold_41 (s_invT (X := xX5_codeAt) (ci := 5) (T := TX5) (N := 6) (K := (fun Q => kX5_codeAt_0 g (d - 1) 0 0 Q)) (fun _ => tX5_codeAt_0) rfl dX5_hold_43 m_X5_codeAt rfl (by decide) qm_X5_51 qi_X5_codeAt qe_X5_codeAt (s_stcT (X := xX5_letterIn) (K := (fun Q => kX5_letterIn_0 g (d - 1) 0 0 Q)) (fun _ => tX5_letterIn_0) rfl dX5_hold_46 m_X5_letterIn qm_X5_58 qs_X5_letterIn (s_iload_n dX5_hold_49 rfl (s_icne (tgt := 64) dX5_hold_50 (by decide) (s_iload dX5_hold_64 (s_iload dX5_hold_66 (s_iadd dX5_hold_68 (s_istore dX5_hold_69 (by decide : 5 < 8) (s_iinc dX5_hold_71 (by decide : 6 < 8) (s_goto (tgt := 16) dX5_hold_74 (by decide) (sk_id))))))) (s_iload dX5_hold_53 (s_iload dX5_hold_55 (s_iadd dX5_hold_57 (s_iload_n dX5_hold_58 rfl (s_isub dX5_hold_59 (s_iconst dX5_hold_60 (s_iadd dX5_hold_61 (s_istore dX5_hold_62 (by decide : 4 < 8) (s_iload dX5_hold_64 (s_iload dX5_hold_66 (s_iadd dX5_hold_68 (s_istore dX5_hold_69 (by decide : 5 < 8) (s_iinc dX5_hold_71 (by decide : 6 < 8) (s_goto (tgt := 16) dX5_hold_74 (by decide) (sk_id))))))))))))))))))))))))))))))))
theorem dX5_legibleIn_0 : decode cX5_legibleIn 0 = .ok (.iconst 0, 1) := by decide +kernel
theorem dX5_legibleIn_1 : decode cX5_legibleIn 1 = .ok (.istore_n 3, 1) := by decide +kernel
theorem dX5_legibleIn_2 : decode cX5_legibleIn 2 = .ok (.iconst 0, 1) := by decide +kernel
theorem dX5_legibleIn_3 : decode cX5_legibleIn 3 = .ok (.istore 4, 2) := by decide +kernel
theorem dX5_legibleIn_5 : decode cX5_legibleIn 5 = .ok (.iload 4, 2) := by decide +kernel
theorem dX5_legibleIn_7 : decode cX5_legibleIn 7 = .ok (.aload_n 0, 1) := by decide +kernel
theorem dX5_legibleIn_8 : decode cX5_legibleIn 8 = .ok (.getfield 15, 3) := by decide +kernel
theorem dX5_legibleIn_11 : decode cX5_legibleIn 11 = .ok (.iload_n 1, 1) := by decide +kernel
theorem dX5_legibleIn_12 : decode cX5_legibleIn 12 = .ok (.iaload, 1) := by decide +kernel
theorem dX5_legibleIn_13 : decode cX5_legibleIn 13 = .ok (.if_icmp .ge 31, 3) := by decide +kernel
theorem dX5_legibleIn_16 : decode cX5_legibleIn 16 = .ok (.iload_n 3, 1) := by decide +kernel
theorem dX5_legibleIn_17 : decode cX5_legibleIn 17 = .ok (.aload_n 0, 1) := by decide +kernel
theorem dX5_legibleIn_18 : decode cX5_legibleIn 18 = .ok (.iload_n 1, 1) := by decide +kernel
theorem dX5_legibleIn_19 : decode cX5_legibleIn 19 = .ok (.iload 4, 2) := by decide +kernel
theorem dX5_legibleIn_21 : decode cX5_legibleIn 21 = .ok (.invokevirtual 51, 3) := by decide +kernel
theorem dX5_legibleIn_24 : decode cX5_legibleIn 24 = .ok (.invokestatic 18, 3) := by decide +kernel
theorem dX5_legibleIn_27 : decode cX5_legibleIn 27 = .ok (.iload_n 2, 1) := by decide +kernel
theorem dX5_legibleIn_28 : decode cX5_legibleIn 28 = .ok (.if_icmp .lt 7, 3) := by decide +kernel
theorem dX5_legibleIn_31 : decode cX5_legibleIn 31 = .ok (.iconst 1, 1) := by decide +kernel
theorem dX5_legibleIn_32 : decode cX5_legibleIn 32 = .ok (.goto 4, 3) := by decide +kernel
theorem dX5_legibleIn_35 : decode cX5_legibleIn 35 = .ok (.iconst 0, 1) := by decide +kernel
theorem dX5_legibleIn_36 : decode cX5_legibleIn 36 = .ok (.iadd, 1) := by decide +kernel
theorem dX5_legibleIn_37 : decode cX5_legibleIn 37 = .ok (.istore_n 3, 1) := by decide +kernel
theorem dX5_legibleIn_38 : decode cX5_legibleIn 38 = .ok (.iinc 4 1, 3) := by decide +kernel
theorem dX5_legibleIn_41 : decode cX5_legibleIn 41 = .ok (.goto (-36), 3) := by decide +kernel
theorem dX5_legibleIn_44 : decode cX5_legibleIn 44 = .ok (.iload_n 3, 1) := by decide +kernel
theorem dX5_legibleIn_45 : decode cX5_legibleIn 45 = .ok (.ireturn, 1) := by decide +kernel
def kX5_legibleIn_0 (g : sk_G) (d ck sk : Nat) (Q : sk_P) : sk_K := o_i (0) (o_istore 3 (o_i (0) (o_istore 4 (sk_B (g, d, ck, sk, xX5_legibleIn, Q) 5))))
theorem tX5_legibleIn_0 {g : sk_G} {d ck sk : Nat} {Q : sk_P} : sk_S (g, d, ck, sk, xX5_legibleIn, Q) 0 (kX5_legibleIn_0 g d ck sk Q) := s_iconst dX5_legibleIn_0 (s_istore_n dX5_legibleIn_1 rfl (by decide : 3 < 5) (s_iconst dX5_legibleIn_2 (s_istore dX5_legibleIn_3 (by decide : 4 < 5) (sk_id))))
set_option maxRecDepth 20000 in
def kX5_legibleIn_5 (g : sk_G) (d ck sk : Nat) (Q : sk_P) : sk_K := o_iload 4 (o_aload 0 (o_getf 5 1 (o_iload 1 (o_iaload (o_icge (o_iload 3 (o_iret (g, d, ck, sk, xX5_legibleIn, Q))) (o_iload 3 (o_aload 0 (o_iload 1 (o_iload 4 (o_invT (g, d, ck, sk, xX5_legibleIn, Q) 3 2 5 (fun Q => kX5_codeAt_0 g (d - 1) 0 0 Q) (o_stcT (g, d, ck, sk, xX5_legibleIn, Q) 1 1 (fun Q => kX5_strengthIn_0 g (d - 1) 0 0 Q) (o_iload 2 (o_iclt (o_i (0) (o_iadd (o_istore 3 (o_iinc 4 (1) (sk_B (g, d, ck, sk, xX5_legibleIn, Q) 5))))) (o_i (1) (o_iadd (o_istore 3 (o_iinc 4 (1) (sk_B (g, d, ck, sk, xX5_legibleIn, Q) 5))))))))))))))))))
set_option maxRecDepth 20000 in
theorem tX5_legibleIn_5 {g : sk_G} {d ck sk : Nat} {Q : sk_P} : sk_S (g, d, ck, sk, xX5_legibleIn, Q) 5 (kX5_legibleIn_5 g d ck sk Q) := s_iload dX5_legibleIn_5 (s_aload_n dX5_legibleIn_7 rfl (s_getf (ci := 5) (j := 1) (C := RX5) (T := TX5) (N := 6) dX5_legibleIn_8 rfl (by decide) (by decide) qf_X5_15 (s_iload_n dX5_legibleIn_11 rfl (s_iaload dX5_legibleIn_12 (s_icge (tgt := 44) dX5_legibleIn_13 (by decide) (s_iload_n dX5_legibleIn_44 rfl (s_iret dX5_legibleIn_45 rfl)) (s_iload_n dX5_legibleIn_16 rfl (s_aload_n dX5_legibleIn_17 rfl (s_iload_n dX5_legibleIn_18 rfl (s_iload dX5_legibleIn_19 (s_invT (X := xX5_codeAt) (ci := 5) (T := TX5) (N := 6) (K := (fun Q => kX5_codeAt_0 g (d - 1) 0 0 Q)) (fun _ => tX5_codeAt_0) rfl dX5_legibleIn_21 m_X5_codeAt rfl (by decide) qm_X5_51 qi_X5_codeAt qe_X5_codeAt (s_stcT (X := xX5_strengthIn) (K := (fun Q => kX5_strengthIn_0 g (d - 1) 0 0 Q)) (fun _ => tX5_strengthIn_0) rfl dX5_legibleIn_24 m_X5_strengthIn qm_X5_18 qs_X5_strengthIn (s_iload_n dX5_legibleIn_27 rfl (s_iclt (tgt := 35) dX5_legibleIn_28 (by decide) (s_iconst dX5_legibleIn_35 (s_iadd dX5_legibleIn_36 (s_istore_n dX5_legibleIn_37 rfl (by decide : 3 < 5) (s_iinc dX5_legibleIn_38 (by decide : 4 < 5) (s_goto (tgt := 5) dX5_legibleIn_41 (by decide) (sk_id)))))) (s_iconst dX5_legibleIn_31 (s_goto (tgt := 36) dX5_legibleIn_32 (by decide) (s_iadd dX5_legibleIn_36 (s_istore_n dX5_legibleIn_37 rfl (by decide : 3 < 5) (s_iinc dX5_legibleIn_38 (by decide : 4 < 5) (s_goto (tgt := 5) dX5_legibleIn_41 (by decide) (sk_id))))))))))))))))))))
theorem dX5_layersOf_0 : decode cX5_layersOf 0 = .ok (.iconst 0, 1) := by decide +kernel
theorem dX5_layersOf_1 : decode cX5_layersOf 1 = .ok (.istore_n 2, 1) := by decide +kernel
theorem dX5_layersOf_2 : decode cX5_layersOf 2 = .ok (.iconst 0, 1) := by decide +kernel
theorem dX5_layersOf_3 : decode cX5_layersOf 3 = .ok (.istore_n 3, 1) := by decide +kernel
theorem dX5_layersOf_4 : decode cX5_layersOf 4 = .ok (.iload_n 3, 1) := by decide +kernel
theorem dX5_layersOf_5 : decode cX5_layersOf 5 = .ok (.bipush 40, 2) := by decide +kernel
theorem dX5_layersOf_7 : decode cX5_layersOf 7 = .ok (.if_icmp .ge 51, 3) := by decide +kernel
theorem dX5_layersOf_10 : decode cX5_layersOf 10 = .ok (.iconst 0, 1) := by decide +kernel
theorem dX5_layersOf_11 : decode cX5_layersOf 11 = .ok (.istore 4, 2) := by decide +kernel
theorem dX5_layersOf_13 : decode cX5_layersOf 13 = .ok (.iload 4, 2) := by decide +kernel
theorem dX5_layersOf_15 : decode cX5_layersOf 15 = .ok (.aload_n 0, 1) := by decide +kernel
theorem dX5_layersOf_16 : decode cX5_layersOf 16 = .ok (.getfield 15, 3) := by decide +kernel
theorem dX5_layersOf_19 : decode cX5_layersOf 19 = .ok (.iload_n 3, 1) := by decide +kernel
theorem dX5_layersOf_20 : decode cX5_layersOf 20 = .ok (.iaload, 1) := by decide +kernel
theorem dX5_layersOf_21 : decode cX5_layersOf 21 = .ok (.if_icmp .ge 31, 3) := by decide +kernel
theorem dX5_layersOf_24 : decode cX5_layersOf 24 = .ok (.iload_n 2, 1) := by decide +kernel
theorem dX5_layersOf_25 : decode cX5_layersOf 25 = .ok (.aload_n 0, 1) := by decide +kernel
theorem dX5_layersOf_26 : decode cX5_layersOf 26 = .ok (.iload_n 3, 1) := by decide +kernel
theorem dX5_layersOf_27 : decode cX5_layersOf 27 = .ok (.iload 4, 2) := by decide +kernel
theorem dX5_layersOf_29 : decode cX5_layersOf 29 = .ok (.invokevirtual 51, 3) := by decide +kernel
theorem dX5_layersOf_32 : decode cX5_layersOf 32 = .ok (.invokestatic 67, 3) := by decide +kernel
theorem dX5_layersOf_35 : decode cX5_layersOf 35 = .ok (.iload_n 1, 1) := by decide +kernel
theorem dX5_layersOf_36 : decode cX5_layersOf 36 = .ok (.if_icmp .ne 7, 3) := by decide +kernel
theorem dX5_layersOf_39 : decode cX5_layersOf 39 = .ok (.iconst 1, 1) := by decide +kernel
theorem dX5_layersOf_40 : decode cX5_layersOf 40 = .ok (.goto 4, 3) := by decide +kernel
theorem dX5_layersOf_43 : decode cX5_layersOf 43 = .ok (.iconst 0, 1) := by decide +kernel
theorem dX5_layersOf_44 : decode cX5_layersOf 44 = .ok (.iadd, 1) := by decide +kernel
theorem dX5_layersOf_45 : decode cX5_layersOf 45 = .ok (.istore_n 2, 1) := by decide +kernel
theorem dX5_layersOf_46 : decode cX5_layersOf 46 = .ok (.iinc 4 1, 3) := by decide +kernel
theorem dX5_layersOf_49 : decode cX5_layersOf 49 = .ok (.goto (-36), 3) := by decide +kernel
theorem dX5_layersOf_52 : decode cX5_layersOf 52 = .ok (.iinc 3 1, 3) := by decide +kernel
theorem dX5_layersOf_55 : decode cX5_layersOf 55 = .ok (.goto (-51), 3) := by decide +kernel
theorem dX5_layersOf_58 : decode cX5_layersOf 58 = .ok (.iload_n 2, 1) := by decide +kernel
theorem dX5_layersOf_59 : decode cX5_layersOf 59 = .ok (.ireturn, 1) := by decide +kernel
def kX5_layersOf_0 (g : sk_G) (d ck sk : Nat) (Q : sk_P) : sk_K := o_i (0) (o_istore 2 (o_i (0) (o_istore 3 (sk_B (g, d, ck, sk, xX5_layersOf, Q) 4))))
theorem tX5_layersOf_0 {g : sk_G} {d ck sk : Nat} {Q : sk_P} : sk_S (g, d, ck, sk, xX5_layersOf, Q) 0 (kX5_layersOf_0 g d ck sk Q) := s_iconst dX5_layersOf_0 (s_istore_n dX5_layersOf_1 rfl (by decide : 2 < 5) (s_iconst dX5_layersOf_2 (s_istore_n dX5_layersOf_3 rfl (by decide : 3 < 5) (sk_id))))
def kX5_layersOf_4 (g : sk_G) (d ck sk : Nat) (Q : sk_P) : sk_K := o_iload 3 (o_i (40) (o_icge (o_iload 2 (o_iret (g, d, ck, sk, xX5_layersOf, Q))) (o_i (0) (o_istore 4 (sk_B (g, d, ck, sk, xX5_layersOf, Q) 13)))))
theorem tX5_layersOf_4 {g : sk_G} {d ck sk : Nat} {Q : sk_P} : sk_S (g, d, ck, sk, xX5_layersOf, Q) 4 (kX5_layersOf_4 g d ck sk Q) := s_iload_n dX5_layersOf_4 rfl (s_bipush dX5_layersOf_5 rfl (s_icge (tgt := 58) dX5_layersOf_7 (by decide) (s_iload_n dX5_layersOf_58 rfl (s_iret dX5_layersOf_59 rfl)) (s_iconst dX5_layersOf_10 (s_istore dX5_layersOf_11 (by decide : 4 < 5) (sk_id)))))
set_option maxRecDepth 20000 in
def kX5_layersOf_13 (g : sk_G) (d ck sk : Nat) (Q : sk_P) : sk_K := o_iload 4 (o_aload 0 (o_getf 5 1 (o_iload 3 (o_iaload (o_icge (o_iinc 3 (1) (sk_B (g, d, ck, sk, xX5_layersOf, Q) 4)) (o_iload 2 (o_aload 0 (o_iload 3 (o_iload 4 (o_invT (g, d, ck, sk, xX5_layersOf, Q) 3 2 5 (fun Q => kX5_codeAt_0 g (d - 1) 0 0 Q) (o_stcT (g, d, ck, sk, xX5_layersOf, Q) 1 1 (fun Q => kX5_handIn_0 g (d - 1) 0 0 Q) (o_iload 1 (o_icne (o_i (0) (o_iadd (o_istore 2 (o_iinc 4 (1) (sk_B (g, d, ck, sk, xX5_layersOf, Q) 13))))) (o_i (1) (o_iadd (o_istore 2 (o_iinc 4 (1) (sk_B (g, d, ck, sk, xX5_layersOf, Q) 13))))))))))))))))))
set_option maxRecDepth 20000 in
theorem tX5_layersOf_13 {g : sk_G} {d ck sk : Nat} {Q : sk_P} : sk_S (g, d, ck, sk, xX5_layersOf, Q) 13 (kX5_layersOf_13 g d ck sk Q) := s_iload dX5_layersOf_13 (s_aload_n dX5_layersOf_15 rfl (s_getf (ci := 5) (j := 1) (C := RX5) (T := TX5) (N := 6) dX5_layersOf_16 rfl (by decide) (by decide) qf_X5_15 (s_iload_n dX5_layersOf_19 rfl (s_iaload dX5_layersOf_20 (s_icge (tgt := 52) dX5_layersOf_21 (by decide) (s_iinc dX5_layersOf_52 (by decide : 3 < 5) (s_goto (tgt := 4) dX5_layersOf_55 (by decide) (sk_id))) (s_iload_n dX5_layersOf_24 rfl (s_aload_n dX5_layersOf_25 rfl (s_iload_n dX5_layersOf_26 rfl (s_iload dX5_layersOf_27 (s_invT (X := xX5_codeAt) (ci := 5) (T := TX5) (N := 6) (K := (fun Q => kX5_codeAt_0 g (d - 1) 0 0 Q)) (fun _ => tX5_codeAt_0) rfl dX5_layersOf_29 m_X5_codeAt rfl (by decide) qm_X5_51 qi_X5_codeAt qe_X5_codeAt (s_stcT (X := xX5_handIn) (K := (fun Q => kX5_handIn_0 g (d - 1) 0 0 Q)) (fun _ => tX5_handIn_0) rfl dX5_layersOf_32 m_X5_handIn qm_X5_67 qs_X5_handIn (s_iload_n dX5_layersOf_35 rfl (s_icne (tgt := 43) dX5_layersOf_36 (by decide) (s_iconst dX5_layersOf_43 (s_iadd dX5_layersOf_44 (s_istore_n dX5_layersOf_45 rfl (by decide : 2 < 5) (s_iinc dX5_layersOf_46 (by decide : 4 < 5) (s_goto (tgt := 13) dX5_layersOf_49 (by decide) (sk_id)))))) (s_iconst dX5_layersOf_39 (s_goto (tgt := 44) dX5_layersOf_40 (by decide) (s_iadd dX5_layersOf_44 (s_istore_n dX5_layersOf_45 rfl (by decide : 2 < 5) (s_iinc dX5_layersOf_46 (by decide : 4 < 5) (s_goto (tgt := 13) dX5_layersOf_49 (by decide) (sk_id))))))))))))))))))))
