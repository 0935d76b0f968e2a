theorem dX9_cut_0 : decode cX9_cut 0 = .ok (.iload_n 1, 1) := by decide +kernel
theorem dX9_cut_1 : decode cX9_cut 1 = .ok (.ifCond .lt 11, 3) := by decide +kernel
theorem dX9_cut_4 : decode cX9_cut 4 = .ok (.iload_n 1, 1) := by decide +kernel
theorem dX9_cut_5 : decode cX9_cut 5 = .ok (.aload_n 0, 1) := by decide +kernel
theorem dX9_cut_6 : decode cX9_cut 6 = .ok (.getfield 15, 3) := by decide +kernel
theorem dX9_cut_9 : decode cX9_cut 9 = .ok (.if_icmp .le 5, 3) := by decide +kernel
theorem dX9_cut_12 : decode cX9_cut 12 = .ok (.iconst 0, 1) := by decide +kernel
theorem dX9_cut_13 : decode cX9_cut 13 = .ok (.ireturn, 1) := by decide +kernel
theorem dX9_cut_14 : decode cX9_cut 14 = .ok (.aload_n 0, 1) := by decide +kernel
theorem dX9_cut_15 : decode cX9_cut 15 = .ok (.iload_n 1, 1) := by decide +kernel
theorem dX9_cut_16 : decode cX9_cut 16 = .ok (.putfield 15, 3) := by decide +kernel
theorem dX9_cut_19 : decode cX9_cut 19 = .ok (.iconst 1, 1) := by decide +kernel
theorem dX9_cut_20 : decode cX9_cut 20 = .ok (.ireturn, 1) := by decide +kernel
def kX9_cut_0 (g : sk_G) (d ck sk : Nat) (Q : sk_P) : sk_K := o_iload 1 (o_iflt (o_i (0) (o_zret (g, d, ck, sk, xX9_cut, Q))) (o_iload 1 (o_aload 0 (o_getf 9 1 (o_icle (o_aload 0 (o_iload 1 (o_puti 9 1 (o_i (1) (o_zret (g, d, ck, sk, xX9_cut, Q)))))) (o_i (0) (o_zret (g, d, ck, sk, xX9_cut, Q))))))))
theorem tX9_cut_0 {g : sk_G} {d ck sk : Nat} {Q : sk_P} : sk_S (g, d, ck, sk, xX9_cut, Q) 0 (kX9_cut_0 g d ck sk Q) := s_iload_n dX9_cut_0 rfl (s_iflt (tgt := 12) dX9_cut_1 (by decide) (s_iconst dX9_cut_12 (s_zret dX9_cut_13 rfl)) (s_iload_n dX9_cut_4 rfl (s_aload_n dX9_cut_5 rfl (s_getf (ci := 9) (j := 1) (C := RX9) (T := TX9) (N := 3) dX9_cut_6 rfl (by decide) (by decide) qf_X9_15 (s_icle (tgt := 14) dX9_cut_9 (by decide) (s_aload_n dX9_cut_14 rfl (s_iload_n dX9_cut_15 rfl (s_puti (ci := 9) (j := 1) (C := RX9) (T := TX9) (N := 3) dX9_cut_16 rfl (by decide) (by decide) rfl (tyX9_ok 1 (by decide)) qf_X9_15 (s_iconst dX9_cut_19 (s_zret dX9_cut_20 rfl))))) (s_iconst dX9_cut_12 (s_zret dX9_cut_13 rfl)))))))
theorem dX9_rewind_0 : decode cX9_rewind 0 = .ok (.aload_n 0, 1) := by decide +kernel
theorem dX9_rewind_1 : decode cX9_rewind 1 = .ok (.iconst 0, 1) := by decide +kernel
theorem dX9_rewind_2 : decode cX9_rewind 2 = .ok (.putfield 23, 3) := by decide +kernel
theorem dX9_rewind_5 : decode cX9_rewind 5 = .ok (.return_, 1) := by decide +kernel
def kX9_rewind_0 (g : sk_G) (d ck sk : Nat) (Q : sk_P) : sk_K := o_aload 0 (o_i (0) (o_puti 9 2 (o_ret (g, d, ck, sk, xX9_rewind, Q))))
theorem tX9_rewind_0 {g : sk_G} {d ck sk : Nat} {Q : sk_P} : sk_S (g, d, ck, sk, xX9_rewind, Q) 0 (kX9_rewind_0 g d ck sk Q) := s_aload_n dX9_rewind_0 rfl (s_iconst dX9_rewind_1 (s_puti (ci := 9) (j := 2) (C := RX9) (T := TX9) (N := 3) dX9_rewind_2 rfl (by decide) (by decide) rfl (tyX9_ok 2 (by decide)) qf_X9_23 (s_ret dX9_rewind_5 rfl)))
theorem dX9_step_0 : decode cX9_step 0 = .ok (.aload_n 0, 1) := by decide +kernel
theorem dX9_step_1 : decode cX9_step 1 = .ok (.getfield 23, 3) := by decide +kernel
theorem dX9_step_4 : decode cX9_step 4 = .ok (.aload_n 0, 1) := by decide +kernel
theorem dX9_step_5 : decode cX9_step 5 = .ok (.getfield 15, 3) := by decide +kernel
theorem dX9_step_8 : decode cX9_step 8 = .ok (.if_icmp .ge 13, 3) := by decide +kernel
theorem dX9_step_11 : decode cX9_step 11 = .ok (.aload_n 0, 1) := by decide +kernel
theorem dX9_step_12 : decode cX9_step 12 = .ok (.dup, 1) := by decide +kernel
theorem dX9_step_13 : decode cX9_step 13 = .ok (.getfield 23, 3) := by decide +kernel
theorem dX9_step_16 : decode cX9_step 16 = .ok (.iconst 1, 1) := by decide +kernel
theorem dX9_step_17 : decode cX9_step 17 = .ok (.iadd, 1) := by decide +kernel
theorem dX9_step_18 : decode cX9_step 18 = .ok (.putfield 23, 3) := by decide +kernel
theorem dX9_step_21 : decode cX9_step 21 = .ok (.return_, 1) := by decide +kernel
set_option maxRecDepth 20000 in
def kX9_step_0 (g : sk_G) (d ck sk : Nat) (Q : sk_P) : sk_K := o_aload 0 (o_getf 9 2 (o_aload 0 (o_getf 9 1 (o_icge (o_ret (g, d, ck, sk, xX9_step, Q)) (o_aload 0 (o_dup (o_getf 9 2 (o_i (1) (o_iadd (o_puti 9 2 (o_ret (g, d, ck, sk, xX9_step, Q))))))))))))
set_option maxRecDepth 20000 in
theorem tX9_step_0 {g : sk_G} {d ck sk : Nat} {Q : sk_P} : sk_S (g, d, ck, sk, xX9_step, Q) 0 (kX9_step_0 g d ck sk Q) := s_aload_n dX9_step_0 rfl (s_getf (ci := 9) (j := 2) (C := RX9) (T := TX9) (N := 3) dX9_step_1 rfl (by decide) (by decide) qf_X9_23 (s_aload_n dX9_step_4 rfl (s_getf (ci := 9) (j := 1) (C := RX9) (T := TX9) (N := 3) dX9_step_5 rfl (by decide) (by decide) qf_X9_15 (s_icge (tgt := 21) dX9_step_8 (by decide) (s_ret dX9_step_21 rfl) (s_aload_n dX9_step_11 rfl (s_dup dX9_step_12 (s_getf (ci := 9) (j := 2) (C := RX9) (T := TX9) (N := 3) dX9_step_13 rfl (by decide) (by decide) qf_X9_23 (s_iconst dX9_step_16 (s_iadd dX9_step_17 (s_puti (ci := 9) (j := 2) (C := RX9) (T := TX9) (N := 3) dX9_step_18 rfl (by decide) (by decide) rfl (tyX9_ok 2 (by decide)) qf_X9_23 (s_ret dX9_step_21 rfl)))))))))))
theorem dX9_stepBack_0 : decode cX9_stepBack 0 = .ok (.aload_n 0, 1) := by decide +kernel
theorem dX9_stepBack_1 : decode cX9_stepBack 1 = .ok (.getfield 23, 3) := by decide +kernel
theorem dX9_stepBack_4 : decode cX9_stepBack 4 = .ok (.ifCond .le 13, 3) := by decide +kernel
theorem dX9_stepBack_7 : decode cX9_stepBack 7 = .ok (.aload_n 0, 1) := by decide +kernel
theorem dX9_stepBack_8 : decode cX9_stepBack 8 = .ok (.dup, 1) := by decide +kernel
theorem dX9_stepBack_9 : decode cX9_stepBack 9 = .ok (.getfield 23, 3) := by decide +kernel
theorem dX9_stepBack_12 : decode cX9_stepBack 12 = .ok (.iconst 1, 1) := by decide +kernel
theorem dX9_stepBack_13 : decode cX9_stepBack 13 = .ok (.isub, 1) := by decide +kernel
theorem dX9_stepBack_14 : decode cX9_stepBack 14 = .ok (.putfield 23, 3) := by decide +kernel
theorem dX9_stepBack_17 : decode cX9_stepBack 17 = .ok (.return_, 1) := by decide +kernel
def kX9_stepBack_0 (g : sk_G) (d ck sk : Nat) (Q : sk_P) : sk_K := o_aload 0 (o_getf 9 2 (o_ifle (o_ret (g, d, ck, sk, xX9_stepBack, Q)) (o_aload 0 (o_dup (o_getf 9 2 (o_i (1) (o_isub (o_puti 9 2 (o_ret (g, d, ck, sk, xX9_stepBack, Q))))))))))
theorem tX9_stepBack_0 {g : sk_G} {d ck sk : Nat} {Q : sk_P} : sk_S (g, d, ck, sk, xX9_stepBack, Q) 0 (kX9_stepBack_0 g d ck sk Q) := s_aload_n dX9_stepBack_0 rfl (s_getf (ci := 9) (j := 2) (C := RX9) (T := TX9) (N := 3) dX9_stepBack_1 rfl (by decide) (by decide) qf_X9_23 (s_ifle (tgt := 17) dX9_stepBack_4 (by decide) (s_ret dX9_stepBack_17 rfl) (s_aload_n dX9_stepBack_7 rfl (s_dup dX9_stepBack_8 (s_getf (ci := 9) (j := 2) (C := RX9) (T := TX9) (N := 3) dX9_stepBack_9 rfl (by decide) (by decide) qf_X9_23 (s_iconst dX9_stepBack_12 (s_isub dX9_stepBack_13 (s_puti (ci := 9) (j := 2) (C := RX9) (T := TX9) (N := 3) dX9_stepBack_14 rfl (by decide) (by decide) rfl (tyX9_ok 2 (by decide)) qf_X9_23 (s_ret dX9_stepBack_17 rfl)))))))))
theorem dX9_init_0 : decode cX9_init 0 = .ok (.aload_n 0, 1) := by decide +kernel
theorem dX9_init_1 : decode cX9_init 1 = .ok (.invokespecial 3, 3) := by decide +kernel
theorem dX9_init_4 : decode cX9_init 4 = .ok (.aload_n 0, 1) := by decide +kernel
theorem dX9_init_5 : decode cX9_init 5 = .ok (.sipush 240, 3) := by decide +kernel
theorem dX9_init_8 : decode cX9_init 8 = .ok (.newarray .int, 2) := by decide +kernel
theorem dX9_init_10 : decode cX9_init 10 = .ok (.putfield 11, 3) := by decide +kernel
theorem dX9_init_13 : decode cX9_init 13 = .ok (.return_, 1) := by decide +kernel
set_option maxRecDepth 20000 in
def kX9_init_0 (g : sk_G) (d ck sk : Nat) (Q : sk_P) : sk_K := o_aload 0 (o_obj (g, d, ck, sk, xX9_init, Q) (o_aload 0 (o_i (240) (o_newa (g, d, ck, sk, xX9_init, Q) 20 240 (sk_I (fun _ => 0)) (o_puta 9 0 (o_ret (g, d, ck - 1, sk - 240, xX9_init, Q)))))))
set_option maxRecDepth 20000 in
theorem tX9_init_0 {g : sk_G} {d ck sk : Nat} {Q : sk_P} : sk_S (g, d, ck, sk, xX9_init, Q) 0 (kX9_init_0 g d ck sk Q) := s_aload_n dX9_init_0 rfl (s_obj dX9_init_1 qm_X9_3 qi_obj qc_obj (s_aload_n dX9_init_4 rfl (s_sipush dX9_init_5 rfl (s_newI (w' := (g, d, ck - 1, sk - 240, xX9_init, Q)) (N := 240) dX9_init_8 (by decide) qr_int rfl (s_putaF (ci := 9) (j := 0) (C := RX9) (T := TX9) (N := 3) dX9_init_10 rfl (by decide) (by decide) rfl rfl rfl (Or.inr ⟨_, rfl⟩) (tyX9_ok 0 (by decide)) qf_X9_11 (s_ret dX9_init_13 rfl))))))
theorem dX9_take_0 : decode cX9_take 0 = .ok (.aload_n 0, 1) := by decide +kernel
theorem dX9_take_1 : decode cX9_take 1 = .ok (.getfield 15, 3) := by decide +kernel
theorem dX9_take_4 : decode cX9_take 4 = .ok (.istore 6, 2) := by decide +kernel
theorem dX9_take_6 : decode cX9_take 6 = .ok (.aload_n 0, 1) := by decide +kernel
theorem dX9_take_7 : decode cX9_take 7 = .ok (.iload_n 1, 1) := by decide +kernel
theorem dX9_take_8 : decode cX9_take 8 = .ok (.invokevirtual 19, 3) := by decide +kernel
theorem dX9_take_11 : decode cX9_take 11 = .ok (.ifCond .eq 41, 3) := by decide +kernel
theorem dX9_take_14 : decode cX9_take 14 = .ok (.aload_n 0, 1) := by decide +kernel
theorem dX9_take_15 : decode cX9_take 15 = .ok (.iload_n 2, 1) := by decide +kernel
theorem dX9_take_16 : decode cX9_take 16 = .ok (.invokevirtual 19, 3) := by decide +kernel
theorem dX9_take_19 : decode cX9_take 19 = .ok (.ifCond .eq 33, 3) := by decide +kernel
theorem dX9_take_22 : decode cX9_take 22 = .ok (.aload_n 0, 1) := by decide +kernel
theorem dX9_take_23 : decode cX9_take 23 = .ok (.iload_n 3, 1) := by decide +kernel
theorem dX9_take_24 : decode cX9_take 24 = .ok (.invokevirtual 19, 3) := by decide +kernel
theorem dX9_take_27 : decode cX9_take 27 = .ok (.ifCond .eq 25, 3) := by decide +kernel
theorem dX9_take_30 : decode cX9_take 30 = .ok (.aload_n 0, 1) := by decide +kernel
theorem dX9_take_31 : decode cX9_take 31 = .ok (.iload 4, 2) := by decide +kernel
theorem dX9_take_33 : decode cX9_take 33 = .ok (.invokevirtual 19, 3) := by decide +kernel
theorem dX9_take_36 : decode cX9_take 36 = .ok (.ifCond .eq 16, 3) := by decide +kernel
theorem dX9_take_39 : decode cX9_take 39 = .ok (.aload_n 0, 1) := by decide +kernel
theorem dX9_take_40 : decode cX9_take 40 = .ok (.iload 5, 2) := by decide +kernel
theorem dX9_take_42 : decode cX9_take 42 = .ok (.invokevirtual 19, 3) := by decide +kernel
theorem dX9_take_45 : decode cX9_take 45 = .ok (.ifCond .eq 7, 3) := by decide +kernel
theorem dX9_take_48 : decode cX9_take 48 = .ok (.iconst 1, 1) := by decide +kernel
theorem dX9_take_49 : decode cX9_take 49 = .ok (.goto 4, 3) := by decide +kernel
theorem dX9_take_52 : decode cX9_take 52 = .ok (.iconst 0, 1) := by decide +kernel
theorem dX9_take_53 : decode cX9_take 53 = .ok (.istore 7, 2) := by decide +kernel
theorem dX9_take_55 : decode cX9_take 55 = .ok (.iload 7, 2) := by decide +kernel
theorem dX9_take_57 : decode cX9_take 57 = .ok (.ifCond .ne 11, 3) := by decide +kernel
theorem dX9_take_60 : decode cX9_take 60 = .ok (.aload_n 0, 1) := by decide +kernel
theorem dX9_take_61 : decode cX9_take 61 = .ok (.iload 6, 2) := by decide +kernel
theorem dX9_take_63 : decode cX9_take 63 = .ok (.putfield 15, 3) := by decide +kernel
theorem dX9_take_66 : decode cX9_take 66 = .ok (.iconst (-1), 1) := by decide +kernel
theorem dX9_take_67 : decode cX9_take 67 = .ok (.ireturn, 1) := by decide +kernel
theorem dX9_take_68 : decode cX9_take 68 = .ok (.aload_n 0, 1) := by decide +kernel
theorem dX9_take_69 : decode cX9_take 69 = .ok (.getfield 15, 3) := by decide +kernel
theorem dX9_take_72 : decode cX9_take 72 = .ok (.ireturn, 1) := by decide +kernel
set_option maxRecDepth 20000 in
def kX9_take_0 (g : sk_G) (d ck sk : Nat) (Q : sk_P) : sk_K := o_aload 0 (o_getf 9 1 (o_istore 6 (o_aload 0 (o_iload 1 (o_invB (g, d, ck, sk, xX9_take, Q) xX9_takeFour 1 9 0 0 (o_ifeq (o_i (0) (sk_B (g, d, ck, sk, xX9_take, Q) 53)) (o_aload 0 (o_iload 2 (o_invB (g, d, ck, sk, xX9_take, Q) xX9_takeFour 1 9 0 0 (o_ifeq (o_i (0) (sk_B (g, d, ck, sk, xX9_take, Q) 53)) (o_aload 0 (o_iload 3 (o_invB (g, d, ck, sk, xX9_take, Q) xX9_takeFour 1 9 0 0 (o_ifeq (o_i (0) (sk_B (g, d, ck, sk, xX9_take, Q) 53)) (o_aload 0 (o_iload 4 (o_invB (g, d, ck, sk, xX9_take, Q) xX9_takeFour 1 9 0 0 (o_ifeq (o_i (0) (sk_B (g, d, ck, sk, xX9_take, Q) 53)) (o_aload 0 (o_iload 5 (o_invB (g, d, ck, sk, xX9_take, Q) xX9_takeFour 1 9 0 0 (o_ifeq (o_i (0) (sk_B (g, d, ck, sk, xX9_take, Q) 53)) (o_i (1) (sk_B (g, d, ck, sk, xX9_take, Q) 53))))))))))))))))))))))))
set_option maxRecDepth 20000 in
theorem tX9_take_0 {g : sk_G} {d ck sk : Nat} {Q : sk_P} : sk_S (g, d, ck, sk, xX9_take, Q) 0 (kX9_take_0 g d ck sk Q) := s_aload_n dX9_take_0 rfl (s_getf (ci := 9) (j := 1) (C := RX9) (T := TX9) (N := 3) dX9_take_1 rfl (by decide) (by decide) qf_X9_15 (s_istore dX9_take_4 (by decide : 6 < 8) (s_aload_n dX9_take_6 rfl (s_iload_n dX9_take_7 rfl (s_invB (w' := (g, d, ck, sk, xX9_take, Q)) (ci := 9) (ck := 0) (sk := 0) (T := TX9) (N := 3) dX9_take_8 m_X9_takeFour rfl (by decide) qm_X9_19 qi_X9_takeFour qe_X9_takeFour rfl (s_ifeq (tgt := 52) dX9_take_11 (by decide) (s_iconst dX9_take_52 (sk_id)) (s_aload_n dX9_take_14 rfl (s_iload_n dX9_take_15 rfl (s_invB (w' := (g, d, ck, sk, xX9_take, Q)) (ci := 9) (ck := 0) (sk := 0) (T := TX9) (N := 3) dX9_take_16 m_X9_takeFour rfl (by decide) qm_X9_19 qi_X9_takeFour qe_X9_takeFour rfl (s_ifeq (tgt := 52) dX9_take_19 (by decide) (s_iconst dX9_take_52 (sk_id)) (s_aload_n dX9_take_22 rfl (s_iload_n dX9_take_23 rfl (s_invB (w' := (g, d, ck, sk, xX9_take, Q)) (ci := 9) (ck := 0) (sk := 0) (T := TX9) (N := 3) dX9_take_24 m_X9_takeFour rfl (by decide) qm_X9_19 qi_X9_takeFour qe_X9_takeFour rfl (s_ifeq (tgt := 52) dX9_take_27 (by decide) (s_iconst dX9_take_52 (sk_id)) (s_aload_n dX9_take_30 rfl (s_iload dX9_take_31 (s_invB (w' := (g, d, ck, sk, xX9_take, Q)) (ci := 9) (ck := 0) (sk := 0) (T := TX9) (N := 3) dX9_take_33 m_X9_takeFour rfl (by decide) qm_X9_19 qi_X9_takeFour qe_X9_takeFour rfl (s_ifeq (tgt := 52) dX9_take_36 (by decide) (s_iconst dX9_take_52 (sk_id)) (s_aload_n dX9_take_39 rfl (s_iload dX9_take_40 (s_invB (w' := (g, d, ck, sk, xX9_take, Q)) (ci := 9) (ck := 0) (sk := 0) (T := TX9) (N := 3) dX9_take_42 m_X9_takeFour rfl (by decide) qm_X9_19 qi_X9_takeFour qe_X9_takeFour rfl (s_ifeq (tgt := 52) dX9_take_45 (by decide) (s_iconst dX9_take_52 (sk_id)) (s_iconst dX9_take_48 (s_goto (tgt := 53) dX9_take_49 (by decide) (sk_id)))))))))))))))))))))))))
def kX9_take_53 (g : sk_G) (d ck sk : Nat) (Q : sk_P) : sk_K := o_istore 7 (o_iload 7 (o_ifne (o_aload 0 (o_getf 9 1 (o_iret (g, d, ck, sk, xX9_take, Q)))) (o_aload 0 (o_iload 6 (o_puti 9 1 (o_i (-1) (o_iret (g, d, ck, sk, xX9_take, Q))))))))
theorem tX9_take_53 {g : sk_G} {d ck sk : Nat} {Q : sk_P} : sk_S (g, d, ck, sk, xX9_take, Q) 53 (kX9_take_53 g d ck sk Q) := s_istore dX9_take_53 (by decide : 7 < 8) (s_iload dX9_take_55 (s_ifne (tgt := 68) dX9_take_57 (by decide) (s_aload_n dX9_take_68 rfl (s_getf (ci := 9) (j := 1) (C := RX9) (T := TX9) (N := 3) dX9_take_69 rfl (by decide) (by decide) qf_X9_15 (s_iret dX9_take_72 rfl))) (s_aload_n dX9_take_60 rfl (s_iload dX9_take_61 (s_puti (ci := 9) (j := 1) (C := RX9) (T := TX9) (N := 3) dX9_take_63 rfl (by decide) (by decide) rfl (tyX9_ok 1 (by decide)) qf_X9_15 (s_iconst dX9_take_66 (s_iret dX9_take_67 rfl)))))))
theorem dX9_takeFour_0 : decode cX9_takeFour 0 = .ok (.bipush 24, 2) := by decide +kernel
theorem dX9_takeFour_2 : decode cX9_takeFour 2 = .ok (.istore_n 2, 1) := by decide +kernel
theorem dX9_takeFour_3 : decode cX9_takeFour 3 = .ok (.iload_n 2, 1) := by decide +kernel
theorem dX9_takeFour_4 : decode cX9_takeFour 4 = .ok (.ifCond .lt 53, 3) := by decide +kernel
theorem dX9_takeFour_7 : decode cX9_takeFour 7 = .ok (.iload_n 1, 1) := by decide +kernel
theorem dX9_takeFour_8 : decode cX9_takeFour 8 = .ok (.iload_n 2, 1) := by decide +kernel
theorem dX9_takeFour_9 : decode cX9_takeFour 9 = .ok (.iushr, 1) := by decide +kernel
theorem dX9_takeFour_10 : decode cX9_takeFour 10 = .ok (.sipush 255, 3) := by decide +kernel
theorem dX9_takeFour_13 : decode cX9_takeFour 13 = .ok (.iand, 1) := by decide +kernel
theorem dX9_takeFour_14 : decode cX9_takeFour 14 = .ok (.istore_n 3, 1) := by decide +kernel
theorem dX9_takeFour_15 : decode cX9_takeFour 15 = .ok (.iload_n 3, 1) := by decide +kernel
theorem dX9_takeFour_16 : decode cX9_takeFour 16 = .ok (.ifCond .eq 35, 3) := by decide +kernel
theorem dX9_takeFour_19 : decode cX9_takeFour 19 = .ok (.aload_n 0, 1) := by decide +kernel
theorem dX9_takeFour_20 : decode cX9_takeFour 20 = .ok (.getfield 15, 3) := by decide +kernel
theorem dX9_takeFour_23 : decode cX9_takeFour 23 = .ok (.sipush 240, 3) := by decide +kernel
theorem dX9_takeFour_26 : decode cX9_takeFour 26 = .ok (.if_icmp .lt 5, 3) := by decide +kernel
theorem dX9_takeFour_29 : decode cX9_takeFour 29 = .ok (.iconst 0, 1) := by decide +kernel
theorem dX9_takeFour_30 : decode cX9_takeFour 30 = .ok (.ireturn, 1) := by decide +kernel
theorem dX9_takeFour_31 : decode cX9_takeFour 31 = .ok (.aload_n 0, 1) := by decide +kernel
theorem dX9_takeFour_32 : decode cX9_takeFour 32 = .ok (.getfield 11, 3) := by decide +kernel
theorem dX9_takeFour_35 : decode cX9_takeFour 35 = .ok (.aload_n 0, 1) := by decide +kernel
theorem dX9_takeFour_36 : decode cX9_takeFour 36 = .ok (.getfield 15, 3) := by decide +kernel
theorem dX9_takeFour_39 : decode cX9_takeFour 39 = .ok (.iload_n 3, 1) := by decide +kernel
theorem dX9_takeFour_40 : decode cX9_takeFour 40 = .ok (.iastore, 1) := by decide +kernel
theorem dX9_takeFour_41 : decode cX9_takeFour 41 = .ok (.aload_n 0, 1) := by decide +kernel
theorem dX9_takeFour_42 : decode cX9_takeFour 42 = .ok (.dup, 1) := by decide +kernel
theorem dX9_takeFour_43 : decode cX9_takeFour 43 = .ok (.getfield 15, 3) := by decide +kernel
theorem dX9_takeFour_46 : decode cX9_takeFour 46 = .ok (.iconst 1, 1) := by decide +kernel
theorem dX9_takeFour_47 : decode cX9_takeFour 47 = .ok (.iadd, 1) := by decide +kernel
theorem dX9_takeFour_48 : decode cX9_takeFour 48 = .ok (.putfield 15, 3) := by decide +kernel
theorem dX9_takeFour_51 : decode cX9_takeFour 51 = .ok (.iinc 2 (-8), 3) := by decide +kernel
theorem dX9_takeFour_54 : decode cX9_takeFour 54 = .ok (.goto (-51), 3) := by decide +kernel
theorem dX9_takeFour_57 : decode cX9_takeFour 57 = .ok (.iconst 1, 1) := by decide +kernel
theorem dX9_takeFour_58 : decode cX9_takeFour 58 = .ok (.ireturn, 1) := by decide +kernel
def kX9_takeFour_0 (g : sk_G) (d ck sk : Nat) (Q : sk_P) : sk_K := o_i (24) (o_istore 2 (sk_B (g, d, ck, sk, xX9_takeFour, Q) 3))
theorem tX9_takeFour_0 {g : sk_G} {d ck sk : Nat} {Q : sk_P} : sk_S (g, d, ck, sk, xX9_takeFour, Q) 0 (kX9_takeFour_0 g d ck sk Q) := s_bipush dX9_takeFour_0 rfl (s_istore_n dX9_takeFour_2 rfl (by decide : 2 < 4) (sk_id))
set_option maxRecDepth 20000 in
def kX9_takeFour_3 (g : sk_G) (d ck sk : Nat) (Q : sk_P) : sk_K := o_iload 2 (o_iflt (o_i (1) (o_zret (g, d, ck, sk, xX9_takeFour, Q))) (o_iload 1 (o_iload 2 (o_iushr (o_i (255) (o_iand (o_istore 3 (o_iload 3 (o_ifeq (o_iinc 2 (-8) (sk_B (g, d, ck, sk, xX9_takeFour, Q) 3)) (o_aload 0 (o_getf 9 1 (o_i (240) (o_iclt (o_aload 0 (o_getf 9 0 (o_aload 0 (o_getf 9 1 (o_iload 3 (o_iastore (o_aload 0 (o_dup (o_getf 9 1 (o_i (1) (o_iadd (o_puti 9 1 (o_iinc 2 (-8) (sk_B (g, d, ck, sk, xX9_takeFour, Q) 3)))))))))))))) (o_i (0) (o_zret (g, d, ck, sk, xX9_takeFour, Q))))))))))))))))
set_option maxRecDepth 20000 in
theorem tX9_takeFour_3 {g : sk_G} {d ck sk : Nat} {Q : sk_P} : sk_S (g, d, ck, sk, xX9_takeFour, Q) 3 (kX9_takeFour_3 g d ck sk Q) := s_iload_n dX9_takeFour_3 rfl (s_iflt (tgt := 57) dX9_takeFour_4 (by decide) (s_iconst dX9_takeFour_57 (s_zret dX9_takeFour_58 rfl)) (s_iload_n dX9_takeFour_7 rfl (s_iload_n dX9_takeFour_8 rfl (s_iushr dX9_takeFour_9 (s_sipush dX9_takeFour_10 rfl (s_iand dX9_takeFour_13 (s_istore_n dX9_takeFour_14 rfl (by decide : 3 < 4) (s_iload_n dX9_takeFour_15 rfl (s_ifeq (tgt := 51) dX9_takeFour_16 (by decide) (s_iinc dX9_takeFour_51 (by decide : 2 < 4) (s_goto (tgt := 3) dX9_takeFour_54 (by decide) (sk_id))) (s_aload_n dX9_takeFour_19 rfl (s_getf (ci := 9) (j := 1) (C := RX9) (T := TX9) (N := 3) dX9_takeFour_20 rfl (by decide) (by decide) qf_X9_15 (s_sipush dX9_takeFour_23 rfl (s_iclt (tgt := 31) dX9_takeFour_26 (by decide) (s_aload_n dX9_takeFour_31 rfl (s_getf (ci := 9) (j := 0) (C := RX9) (T := TX9) (N := 3) dX9_takeFour_32 rfl (by decide) (by decide) qf_X9_11 (s_aload_n dX9_takeFour_35 rfl (s_getf (ci := 9) (j := 1) (C := RX9) (T := TX9) (N := 3) dX9_takeFour_36 rfl (by decide) (by decide) qf_X9_15 (s_iload_n dX9_takeFour_39 rfl (s_iastore dX9_takeFour_40 (s_aload_n dX9_takeFour_41 rfl (s_dup dX9_takeFour_42 (s_getf (ci := 9) (j := 1) (C := RX9) (T := TX9) (N := 3) dX9_takeFour_43 rfl (by decide) (by decide) qf_X9_15 (s_iconst dX9_takeFour_46 (s_iadd dX9_takeFour_47 (s_puti (ci := 9) (j := 1) (C := RX9) (T := TX9) (N := 3) dX9_takeFour_48 rfl (by decide) (by decide) rfl (tyX9_ok 1 (by decide)) qf_X9_15 (s_iinc dX9_takeFour_51 (by decide : 2 < 4) (s_goto (tgt := 3) dX9_takeFour_54 (by decide) (sk_id))))))))))))))) (s_iconst dX9_takeFour_29 (s_zret dX9_takeFour_30 rfl)))))))))))))))
theorem dX9_peek_0 : decode cX9_peek 0 = .ok (.aload_n 0, 1) := by decide +kernel
theorem dX9_peek_1 : decode cX9_peek 1 = .ok (.getfield 23, 3) := by decide +kernel
theorem dX9_peek_4 : decode cX9_peek 4 = .ok (.aload_n 0, 1) := by decide +kernel
theorem dX9_peek_5 : decode cX9_peek 5 = .ok (.getfield 15, 3) := by decide +kernel
theorem dX9_peek_8 : decode cX9_peek 8 = .ok (.if_icmp .ge 30, 3) := by decide +kernel
theorem dX9_peek_11 : decode cX9_peek 11 = .ok (.aload_n 0, 1) := by decide +kernel
theorem dX9_peek_12 : decode cX9_peek 12 = .ok (.getfield 11, 3) := by decide +kernel
theorem dX9_peek_15 : decode cX9_peek 15 = .ok (.aload_n 0, 1) := by decide +kernel
theorem dX9_peek_16 : decode cX9_peek 16 = .ok (.getfield 23, 3) := by decide +kernel
theorem dX9_peek_19 : decode cX9_peek 19 = .ok (.iaload, 1) := by decide +kernel
theorem dX9_peek_20 : decode cX9_peek 20 = .ok (.bipush 32, 2) := by decide +kernel
theorem dX9_peek_22 : decode cX9_peek 22 = .ok (.if_icmp .ne 16, 3) := by decide +kernel
theorem dX9_peek_25 : decode cX9_peek 25 = .ok (.aload_n 0, 1) := by decide +kernel
theorem dX9_peek_26 : decode cX9_peek 26 = .ok (.dup, 1) := by decide +kernel
theorem dX9_peek_27 : decode cX9_peek 27 = .ok (.getfield 23, 3) := by decide +kernel
theorem dX9_peek_30 : decode cX9_peek 30 = .ok (.iconst 1, 1) := by decide +kernel
theorem dX9_peek_31 : decode cX9_peek 31 = .ok (.iadd, 1) := by decide +kernel
theorem dX9_peek_32 : decode cX9_peek 32 = .ok (.putfield 23, 3) := by decide +kernel
theorem dX9_peek_35 : decode cX9_peek 35 = .ok (.goto (-35), 3) := by decide +kernel
theorem dX9_peek_38 : decode cX9_peek 38 = .ok (.aload_n 0, 1) := by decide +kernel
theorem dX9_peek_39 : decode cX9_peek 39 = .ok (.getfield 23, 3) := by decide +kernel
theorem dX9_peek_42 : decode cX9_peek 42 = .ok (.aload_n 0, 1) := by decide +kernel
theorem dX9_peek_43 : decode cX9_peek 43 = .ok (.getfield 15, 3) := by decide +kernel
theorem dX9_peek_46 : decode cX9_peek 46 = .ok (.if_icmp .ge 15, 3) := by decide +kernel
theorem dX9_peek_49 : decode cX9_peek 49 = .ok (.aload_n 0, 1) := by decide +kernel
theorem dX9_peek_50 : decode cX9_peek 50 = .ok (.getfield 11, 3) := by decide +kernel
theorem dX9_peek_53 : decode cX9_peek 53 = .ok (.aload_n 0, 1) := by decide +kernel
theorem dX9_peek_54 : decode cX9_peek 54 = .ok (.getfield 23, 3) := by decide +kernel
theorem dX9_peek_57 : decode cX9_peek 57 = .ok (.iaload, 1) := by decide +kernel
theorem dX9_peek_58 : decode cX9_peek 58 = .ok (.goto 4, 3) := by decide +kernel
theorem dX9_peek_61 : decode cX9_peek 61 = .ok (.iconst (-1), 1) := by decide +kernel
theorem dX9_peek_62 : decode cX9_peek 62 = .ok (.ireturn, 1) := by decide +kernel
set_option maxRecDepth 20000 in
def kX9_peek_0 (g : sk_G) (d ck sk : Nat) (Q : sk_P) : sk_K := o_aload 0 (o_getf 9 2 (o_aload 0 (o_getf 9 1 (o_icge (sk_B (g, d, ck, sk, xX9_peek, Q) 38) (o_aload 0 (o_getf 9 0 (o_aload 0 (o_getf 9 2 (o_iaload (o_i (32) (o_icne (sk_B (g, d, ck, sk, xX9_peek, Q) 38) (o_aload 0 (o_dup (o_getf 9 2 (o_i (1) (o_iadd (o_puti 9 2 (sk_B (g, d, ck, sk, xX9_peek, Q) 0))))))))))))))))))
set_option maxRecDepth 20000 in
theorem tX9_peek_0 {g : sk_G} {d ck sk : Nat} {Q : sk_P} : sk_S (g, d, ck, sk, xX9_peek, Q) 0 (kX9_peek_0 g d ck sk Q) := s_aload_n dX9_peek_0 rfl (s_getf (ci := 9) (j := 2) (C := RX9) (T := TX9) (N := 3) dX9_peek_1 rfl (by decide) (by decide) qf_X9_23 (s_aload_n dX9_peek_4 rfl (s_getf (ci := 9) (j := 1) (C := RX9) (T := TX9) (N := 3) dX9_peek_5 rfl (by decide) (by decide) qf_X9_15 (s_icge (tgt := 38) dX9_peek_8 (by decide) (sk_id) (s_aload_n dX9_peek_11 rfl (s_getf (ci := 9) (j := 0) (C := RX9) (T := TX9) (N := 3) dX9_peek_12 rfl (by decide) (by decide) qf_X9_11 (s_aload_n dX9_peek_15 rfl (s_getf (ci := 9) (j := 2) (C := RX9) (T := TX9) (N := 3) dX9_peek_16 rfl (by decide) (by decide) qf_X9_23 (s_iaload dX9_peek_19 (s_bipush dX9_peek_20 rfl (s_icne (tgt := 38) dX9_peek_22 (by decide) (sk_id) (s_aload_n dX9_peek_25 rfl (s_dup dX9_peek_26 (s_getf (ci := 9) (j := 2) (C := RX9) (T := TX9) (N := 3) dX9_peek_27 rfl (by decide) (by decide) qf_X9_23 (s_iconst dX9_peek_30 (s_iadd dX9_peek_31 (s_puti (ci := 9) (j := 2) (C := RX9) (T := TX9) (N := 3) dX9_peek_32 rfl (by decide) (by decide) rfl (tyX9_ok 2 (by decide)) qf_X9_23 (s_goto (tgt := 0) dX9_peek_35 (by decide) (sk_id)))))))))))))))))))
set_option maxRecDepth 20000 in
def kX9_peek_38 (g : sk_G) (d ck sk : Nat) (Q : sk_P) : sk_K := o_aload 0 (o_getf 9 2 (o_aload 0 (o_getf 9 1 (o_icge (o_i (-1) (o_iret (g, d, ck, sk, xX9_peek, Q))) (o_aload 0 (o_getf 9 0 (o_aload 0 (o_getf 9 2 (o_iaload (o_iret (g, d, ck, sk, xX9_peek, Q)))))))))))
set_option maxRecDepth 20000 in
theorem tX9_peek_38 {g : sk_G} {d ck sk : Nat} {Q : sk_P} : sk_S (g, d, ck, sk, xX9_peek, Q) 38 (kX9_peek_38 g d ck sk Q) := s_aload_n dX9_peek_38 rfl (s_getf (ci := 9) (j := 2) (C := RX9) (T := TX9) (N := 3) dX9_peek_39 rfl (by decide) (by decide) qf_X9_23 (s_aload_n dX9_peek_42 rfl (s_getf (ci := 9) (j := 1) (C := RX9) (T := TX9) (N := 3) dX9_peek_43 rfl (by decide) (by decide) qf_X9_15 (s_icge (tgt := 61) dX9_peek_46 (by decide) (s_iconst dX9_peek_61 (s_iret dX9_peek_62 rfl)) (s_aload_n dX9_peek_49 rfl (s_getf (ci := 9) (j := 0) (C := RX9) (T := TX9) (N := 3) dX9_peek_50 rfl (by decide) (by decide) qf_X9_11 (s_aload_n dX9_peek_53 rfl (s_getf (ci := 9) (j := 2) (C := RX9) (T := TX9) (N := 3) dX9_peek_54 rfl (by decide) (by decide) qf_X9_23 (s_iaload dX9_peek_57 (s_goto (tgt := 62) dX9_peek_58 (by decide) (s_iret dX9_peek_62 rfl)))))))))))
theorem dX9_peekAmong_0 : decode cX9_peekAmong 0 = .ok (.aload_n 0, 1) := by decide +kernel
theorem dX9_peekAmong_1 : decode cX9_peekAmong 1 = .ok (.invokevirtual 26, 3) := by decide +kernel
theorem dX9_peekAmong_4 : decode cX9_peekAmong 4 = .ok (.istore_n 2, 1) := by decide +kernel
theorem dX9_peekAmong_5 : decode cX9_peekAmong 5 = .ok (.iload_n 2, 1) := by decide +kernel
theorem dX9_peekAmong_6 : decode cX9_peekAmong 6 = .ok (.iconst (-1), 1) := by decide +kernel
theorem dX9_peekAmong_7 : decode cX9_peekAmong 7 = .ok (.if_icmp .ne 7, 3) := by decide +kernel
theorem dX9_peekAmong_10 : decode cX9_peekAmong 10 = .ok (.iconst (-1), 1) := by decide +kernel
theorem dX9_peekAmong_11 : decode cX9_peekAmong 11 = .ok (.goto 9, 3) := by decide +kernel
theorem dX9_peekAmong_14 : decode cX9_peekAmong 14 = .ok (.aload_n 1, 1) := by decide +kernel
theorem dX9_peekAmong_15 : decode cX9_peekAmong 15 = .ok (.iload_n 2, 1) := by decide +kernel
theorem dX9_peekAmong_16 : decode cX9_peekAmong 16 = .ok (.i2c, 1) := by decide +kernel
theorem dX9_peekAmong_17 : decode cX9_peekAmong 17 = .ok (.invokevirtual 33, 3) := by decide +kernel
theorem dX9_peekAmong_20 : decode cX9_peekAmong 20 = .ok (.ireturn, 1) := by decide +kernel
def kX9_peekAmong_0 (g : sk_G) (d ck sk : Nat) (Q : sk_P) : sk_K := o_aload 0 (o_invB (g, d, ck, sk, xX9_peekAmong, Q) xX9_peek 0 9 0 0 (o_istore 2 (o_iload 2 (o_i (-1) (o_icne (o_aload 1 (o_iload 2 (o_i2c (o_sidx (g, d, ck, sk, xX9_peekAmong, Q) (o_iret (g, d, ck, sk, xX9_peekAmong, Q)))))) (o_i (-1) (o_iret (g, d, ck, sk, xX9_peekAmong, Q))))))))
theorem tX9_peekAmong_0 {g : sk_G} {d ck sk : Nat} {Q : sk_P} : sk_S (g, d, ck, sk, xX9_peekAmong, Q) 0 (kX9_peekAmong_0 g d ck sk Q) := s_aload_n dX9_peekAmong_0 rfl (s_invB (w' := (g, d, ck, sk, xX9_peekAmong, Q)) (ci := 9) (ck := 0) (sk := 0) (T := TX9) (N := 3) dX9_peekAmong_1 m_X9_peek rfl (by decide) qm_X9_26 qi_X9_peek qe_X9_peek rfl (s_istore_n dX9_peekAmong_4 rfl (by decide : 2 < 3) (s_iload_n dX9_peekAmong_5 rfl (s_iconst dX9_peekAmong_6 (s_icne (tgt := 14) dX9_peekAmong_7 (by decide) (s_aload_n dX9_peekAmong_14 rfl (s_iload_n dX9_peekAmong_15 rfl (s_i2c dX9_peekAmong_16 (s_sidx dX9_peekAmong_17 qm_X9_33 (s_iret dX9_peekAmong_20 rfl))))) (s_iconst dX9_peekAmong_10 (s_goto (tgt := 20) dX9_peekAmong_11 (by decide) (s_iret dX9_peekAmong_20 rfl))))))))
theorem dX9_number_0 : decode cX9_number 0 = .ok (.iconst 0, 1) := by decide +kernel
theorem dX9_number_1 : decode cX9_number 1 = .ok (.istore_n 2, 1) := by decide +kernel
theorem dX9_number_2 : decode cX9_number 2 = .ok (.iconst 0, 1) := by decide +kernel
theorem dX9_number_3 : decode cX9_number 3 = .ok (.istore_n 3, 1) := by decide +kernel
theorem dX9_number_4 : decode cX9_number 4 = .ok (.aload_n 0, 1) := by decide +kernel
theorem dX9_number_5 : decode cX9_number 5 = .ok (.invokevirtual 26, 3) := by decide +kernel
theorem dX9_number_8 : decode cX9_number 8 = .ok (.pop, 1) := by decide +kernel
theorem dX9_number_9 : decode cX9_number 9 = .ok (.aload_n 0, 1) := by decide +kernel
theorem dX9_number_10 : decode cX9_number 10 = .ok (.getfield 23, 3) := by decide +kernel
theorem dX9_number_13 : decode cX9_number 13 = .ok (.aload_n 0, 1) := by decide +kernel
theorem dX9_number_14 : decode cX9_number 14 = .ok (.getfield 15, 3) := by decide +kernel
theorem dX9_number_17 : decode cX9_number 17 = .ok (.if_icmp .ge 72, 3) := by decide +kernel
theorem dX9_number_20 : decode cX9_number 20 = .ok (.aload_n 0, 1) := by decide +kernel
theorem dX9_number_21 : decode cX9_number 21 = .ok (.getfield 11, 3) := by decide +kernel
theorem dX9_number_24 : decode cX9_number 24 = .ok (.aload_n 0, 1) := by decide +kernel
theorem dX9_number_25 : decode cX9_number 25 = .ok (.getfield 23, 3) := by decide +kernel
theorem dX9_number_28 : decode cX9_number 28 = .ok (.iaload, 1) := by decide +kernel
theorem dX9_number_29 : decode cX9_number 29 = .ok (.bipush 48, 2) := by decide +kernel
theorem dX9_number_31 : decode cX9_number 31 = .ok (.if_icmp .lt 58, 3) := by decide +kernel
theorem dX9_number_34 : decode cX9_number 34 = .ok (.aload_n 0, 1) := by decide +kernel
theorem dX9_number_35 : decode cX9_number 35 = .ok (.getfield 11, 3) := by decide +kernel
theorem dX9_number_38 : decode cX9_number 38 = .ok (.aload_n 0, 1) := by decide +kernel
theorem dX9_number_39 : decode cX9_number 39 = .ok (.getfield 23, 3) := by decide +kernel
theorem dX9_number_42 : decode cX9_number 42 = .ok (.iaload, 1) := by decide +kernel
theorem dX9_number_43 : decode cX9_number 43 = .ok (.bipush 57, 2) := by decide +kernel
theorem dX9_number_45 : decode cX9_number 45 = .ok (.if_icmp .gt 44, 3) := by decide +kernel
theorem dX9_number_48 : decode cX9_number 48 = .ok (.iload_n 3, 1) := by decide +kernel
theorem dX9_number_49 : decode cX9_number 49 = .ok (.iload_n 1, 1) := by decide +kernel
theorem dX9_number_50 : decode cX9_number 50 = .ok (.if_icmp .ne 5, 3) := by decide +kernel
theorem dX9_number_53 : decode cX9_number 53 = .ok (.iconst (-1), 1) := by decide +kernel
theorem dX9_number_54 : decode cX9_number 54 = .ok (.ireturn, 1) := by decide +kernel
theorem dX9_number_55 : decode cX9_number 55 = .ok (.bipush 10, 2) := by decide +kernel
theorem dX9_number_57 : decode cX9_number 57 = .ok (.iload_n 2, 1) := by decide +kernel
theorem dX9_number_58 : decode cX9_number 58 = .ok (.imul, 1) := by decide +kernel
theorem dX9_number_59 : decode cX9_number 59 = .ok (.aload_n 0, 1) := by decide +kernel
theorem dX9_number_60 : decode cX9_number 60 = .ok (.getfield 11, 3) := by decide +kernel
theorem dX9_number_63 : decode cX9_number 63 = .ok (.aload_n 0, 1) := by decide +kernel
theorem dX9_number_64 : decode cX9_number 64 = .ok (.getfield 23, 3) := by decide +kernel
theorem dX9_number_67 : decode cX9_number 67 = .ok (.iaload, 1) := by decide +kernel
theorem dX9_number_68 : decode cX9_number 68 = .ok (.iadd, 1) := by decide +kernel
theorem dX9_number_69 : decode cX9_number 69 = .ok (.bipush 48, 2) := by decide +kernel
theorem dX9_number_71 : decode cX9_number 71 = .ok (.isub, 1) := by decide +kernel
theorem dX9_number_72 : decode cX9_number 72 = .ok (.istore_n 2, 1) := by decide +kernel
theorem dX9_number_73 : decode cX9_number 73 = .ok (.iinc 3 1, 3) := by decide +kernel
theorem dX9_number_76 : decode cX9_number 76 = .ok (.aload_n 0, 1) := by decide +kernel
theorem dX9_number_77 : decode cX9_number 77 = .ok (.dup, 1) := by decide +kernel
theorem dX9_number_78 : decode cX9_number 78 = .ok (.getfield 23, 3) := by decide +kernel
theorem dX9_number_81 : decode cX9_number 81 = .ok (.iconst 1, 1) := by decide +kernel
theorem dX9_number_82 : decode cX9_number 82 = .ok (.iadd, 1) := by decide +kernel
theorem dX9_number_83 : decode cX9_number 83 = .ok (.putfield 23, 3) := by decide +kernel
theorem dX9_number_86 : decode cX9_number 86 = .ok (.goto (-77), 3) := by decide +kernel
theorem dX9_number_89 : decode cX9_number 89 = .ok (.iload_n 3, 1) := by decide +kernel
theorem dX9_number_90 : decode cX9_number 90 = .ok (.ifCond .ne 7, 3) := by decide +kernel
theorem dX9_number_93 : decode cX9_number 93 = .ok (.iconst (-1), 1) := by decide +kernel
theorem dX9_number_94 : decode cX9_number 94 = .ok (.goto 4, 3) := by decide +kernel
theorem dX9_number_97 : decode cX9_number 97 = .ok (.iload_n 2, 1) := by decide +kernel
theorem dX9_number_98 : decode cX9_number 98 = .ok (.ireturn, 1) := by decide +kernel
def kX9_number_0 (g : sk_G) (d ck sk : Nat) (Q : sk_P) : sk_K := o_i (0) (o_istore 2 (o_i (0) (o_istore 3 (o_aload 0 (o_invB (g, d, ck, sk, xX9_number, Q) xX9_peek 0 9 0 0 (o_pop (sk_B (g, d, ck, sk, xX9_number, Q) 9)))))))
theorem tX9_number_0 {g : sk_G} {d ck sk : Nat} {Q : sk_P} : sk_S (g, d, ck, sk, xX9_number, Q) 0 (kX9_number_0 g d ck sk Q) := s_iconst dX9_number_0 (s_istore_n dX9_number_1 rfl (by decide : 2 < 4) (s_iconst dX9_number_2 (s_istore_n dX9_number_3 rfl (by decide : 3 < 4) (s_aload_n dX9_number_4 rfl (s_invB (w' := (g, d, ck, sk, xX9_number, Q)) (ci := 9) (ck := 0) (sk := 0) (T := TX9) (N := 3) dX9_number_5 m_X9_peek rfl (by decide) qm_X9_26 qi_X9_peek qe_X9_peek rfl (s_pop dX9_number_8 (sk_id)))))))
set_option maxRecDepth 20000 in
def kX9_number_9 (g : sk_G) (d ck sk : Nat) (Q : sk_P) : sk_K := o_aload 0 (o_getf 9 2 (o_aload 0 (o_getf 9 1 (o_icge (sk_B (g, d, ck, sk, xX9_number, Q) 89) (o_aload 0 (o_getf 9 0 (o_aload 0 (o_getf 9 2 (o_iaload (o_i (48) (o_iclt (sk_B (g, d, ck, sk, xX9_number, Q) 89) (o_aload 0 (o_getf 9 0 (o_aload 0 (o_getf 9 2 (o_iaload (o_i (57) (o_icgt (sk_B (g, d, ck, sk, xX9_number, Q) 89) (o_iload 3 (o_iload 1 (o_icne (o_i (10) (o_iload 2 (o_imul (o_aload 0 (o_getf 9 0 (o_aload 0 (o_getf 9 2 (o_iaload (o_iadd (o_i (48) (o_isub (o_istore 2 (o_iinc 3 (1) (o_aload 0 (o_dup (o_getf 9 2 (o_i (1) (o_iadd (o_puti 9 2 (sk_B (g, d, ck, sk, xX9_number, Q) 9)))))))))))))))))))) (o_i (-1) (o_iret (g, d, ck, sk, xX9_number, Q))))))))))))))))))))))))
set_option maxRecDepth 20000 in
theorem tX9_number_9 {g : sk_G} {d ck sk : Nat} {Q : sk_P} : sk_S (g, d, ck, sk, xX9_number, Q) 9 (kX9_number_9 g d ck sk Q) := s_aload_n dX9_number_9 rfl (s_getf (ci := 9) (j := 2) (C := RX9) (T := TX9) (N := 3) dX9_number_10 rfl (by decide) (by decide) qf_X9_23 (s_aload_n dX9_number_13 rfl (s_getf (ci := 9) (j := 1) (C := RX9) (T := TX9) (N := 3) dX9_number_14 rfl (by decide) (by decide) qf_X9_15 (s_icge (tgt := 89) dX9_number_17 (by decide) (sk_id) (s_aload_n dX9_number_20 rfl (s_getf (ci := 9) (j := 0) (C := RX9) (T := TX9) (N := 3) dX9_number_21 rfl (by decide) (by decide) qf_X9_11 (s_aload_n dX9_number_24 rfl (s_getf (ci := 9) (j := 2) (C := RX9) (T := TX9) (N := 3) dX9_number_25 rfl (by decide) (by decide) qf_X9_23 (s_iaload dX9_number_28 (s_bipush dX9_number_29 rfl (s_iclt (tgt := 89) dX9_number_31 (by decide) (sk_id) (s_aload_n dX9_number_34 rfl (s_getf (ci := 9) (j := 0) (C := RX9) (T := TX9) (N := 3) dX9_number_35 rfl (by decide) (by decide) qf_X9_11 (s_aload_n dX9_number_38 rfl (s_getf (ci := 9) (j := 2) (C := RX9) (T := TX9) (N := 3) dX9_number_39 rfl (by decide) (by decide) qf_X9_23 (s_iaload dX9_number_42 (s_bipush dX9_number_43 rfl (s_icgt (tgt := 89) dX9_number_45 (by decide) (sk_id) (s_iload_n dX9_number_48 rfl (s_iload_n dX9_number_49 rfl (s_icne (tgt := 55) dX9_number_50 (by decide) (s_bipush dX9_number_55 rfl (s_iload_n dX9_number_57 rfl (s_imul dX9_number_58 (s_aload_n dX9_number_59 rfl (s_getf (ci := 9) (j := 0) (C := RX9) (T := TX9) (N := 3) dX9_number_60 rfl (by decide) (by decide) qf_X9_11 (s_aload_n dX9_number_63 rfl (s_getf (ci := 9) (j := 2) (C := RX9) (T := TX9) (N := 3) dX9_number_64 rfl (by decide) (by decide) qf_X9_23 (s_iaload dX9_number_67 (s_iadd dX9_number_68 (s_bipush dX9_number_69 rfl (s_isub dX9_number_71 (s_istore_n dX9_number_72 rfl (by decide : 2 < 4) (s_iinc dX9_number_73 (by decide : 3 < 4) (s_aload_n dX9_number_76 rfl (s_dup dX9_number_77 (s_getf (ci := 9) (j := 2) (C := RX9) (T := TX9) (N := 3) dX9_number_78 rfl (by decide) (by decide) qf_X9_23 (s_iconst dX9_number_81 (s_iadd dX9_number_82 (s_puti (ci := 9) (j := 2) (C := RX9) (T := TX9) (N := 3) dX9_number_83 rfl (by decide) (by decide) rfl (tyX9_ok 2 (by decide)) qf_X9_23 (s_goto (tgt := 9) dX9_number_86 (by decide) (sk_id))))))))))))))))))))) (s_iconst dX9_number_53 (s_iret dX9_number_54 rfl)))))))))))))))))))))))
def kX9_number_89 (g : sk_G) (d ck sk : Nat) (Q : sk_P) : sk_K := o_iload 3 (o_ifne (o_iload 2 (o_iret (g, d, ck, sk, xX9_number, Q))) (o_i (-1) (o_iret (g, d, ck, sk, xX9_number, Q))))
theorem tX9_number_89 {g : sk_G} {d ck sk : Nat} {Q : sk_P} : sk_S (g, d, ck, sk, xX9_number, Q) 89 (kX9_number_89 g d ck sk Q) := s_iload_n dX9_number_89 rfl (s_ifne (tgt := 97) dX9_number_90 (by decide) (s_iload_n dX9_number_97 rfl (s_iret dX9_number_98 rfl)) (s_iconst dX9_number_93 (s_goto (tgt := 98) dX9_number_94 (by decide) (s_iret dX9_number_98 rfl))))
theorem dX9_eats_0 : decode cX9_eats 0 = .ok (.aload_n 0, 1) := by decide +kernel
theorem dX9_eats_1 : decode cX9_eats 1 = .ok (.invokevirtual 26, 3) := by decide +kernel
theorem dX9_eats_4 : decode cX9_eats 4 = .ok (.iload_n 1, 1) := by decide +kernel
theorem dX9_eats_5 : decode cX9_eats 5 = .ok (.if_icmp .eq 5, 3) := by decide +kernel
theorem dX9_eats_8 : decode cX9_eats 8 = .ok (.iconst 0, 1) := by decide +kernel
theorem dX9_eats_9 : decode cX9_eats 9 = .ok (.ireturn, 1) := by decide +kernel
theorem dX9_eats_10 : decode cX9_eats 10 = .ok (.aload_n 0, 1) := by decide +kernel
theorem dX9_eats_11 : decode cX9_eats 11 = .ok (.invokevirtual 30, 3) := by decide +kernel
theorem dX9_eats_14 : decode cX9_eats 14 = .ok (.iconst 1, 1) := by decide +kernel
theorem dX9_eats_15 : decode cX9_eats 15 = .ok (.ireturn, 1) := by decide +kernel
set_option maxRecDepth 20000 in
def kX9_eats_0 (g : sk_G) (d ck sk : Nat) (Q : sk_P) : sk_K := o_aload 0 (o_invB (g, d, ck, sk, xX9_eats, Q) xX9_peek 0 9 0 0 (o_iload 1 (o_iceq (o_aload 0 (o_invT (g, d, ck, sk, xX9_eats, Q) 1 0 9 (fun Q => kX9_step_0 g (d - 1) 0 0 Q) (o_i (1) (o_zret (g, d, ck, sk, xX9_eats, Q))))) (o_i (0) (o_zret (g, d, ck, sk, xX9_eats, Q))))))
set_option maxRecDepth 20000 in
theorem tX9_eats_0 {g : sk_G} {d ck sk : Nat} {Q : sk_P} : sk_S (g, d, ck, sk, xX9_eats, Q) 0 (kX9_eats_0 g d ck sk Q) := s_aload_n dX9_eats_0 rfl (s_invB (w' := (g, d, ck, sk, xX9_eats, Q)) (ci := 9) (ck := 0) (sk := 0) (T := TX9) (N := 3) dX9_eats_1 m_X9_peek rfl (by decide) qm_X9_26 qi_X9_peek qe_X9_peek rfl (s_iload_n dX9_eats_4 rfl (s_iceq (tgt := 10) dX9_eats_5 (by decide) (s_aload_n dX9_eats_10 rfl (s_invT (X := xX9_step) (ci := 9) (T := TX9) (N := 3) (K := (fun Q => kX9_step_0 g (d - 1) 0 0 Q)) (fun _ => tX9_step_0) rfl dX9_eats_11 m_X9_step rfl (by decide) qm_X9_30 qi_X9_step qe_X9_step (s_iconst dX9_eats_14 (s_zret dX9_eats_15 rfl)))) (s_iconst dX9_eats_8 (s_zret dX9_eats_9 rfl)))))
theorem dX9_peeksDigit_0 : decode cX9_peeksDigit 0 = .ok (.aload_n 0, 1) := by decide +kernel
theorem dX9_peeksDigit_1 : decode cX9_peeksDigit 1 = .ok (.invokevirtual 26, 3) := by decide +kernel
theorem dX9_peeksDigit_4 : decode cX9_peeksDigit 4 = .ok (.istore_n 1, 1) := by decide +kernel
theorem dX9_peeksDigit_5 : decode cX9_peeksDigit 5 = .ok (.iload_n 1, 1) := by decide +kernel
theorem dX9_peeksDigit_6 : decode cX9_peeksDigit 6 = .ok (.bipush 48, 2) := by decide +kernel
theorem dX9_peeksDigit_8 : decode cX9_peeksDigit 8 = .ok (.if_icmp .lt 13, 3) := by decide +kernel
theorem dX9_peeksDigit_11 : decode cX9_peeksDigit 11 = .ok (.iload_n 1, 1) := by decide +kernel
theorem dX9_peeksDigit_12 : decode cX9_peeksDigit 12 = .ok (.bipush 57, 2) := by decide +kernel
theorem dX9_peeksDigit_14 : decode cX9_peeksDigit 14 = .ok (.if_icmp .gt 7, 3) := by decide +kernel
theorem dX9_peeksDigit_17 : decode cX9_peeksDigit 17 = .ok (.iconst 1, 1) := by decide +kernel
theorem dX9_peeksDigit_18 : decode cX9_peeksDigit 18 = .ok (.goto 4, 3) := by decide +kernel
theorem dX9_peeksDigit_21 : decode cX9_peeksDigit 21 = .ok (.iconst 0, 1) := by decide +kernel
theorem dX9_peeksDigit_22 : decode cX9_peeksDigit 22 = .ok (.ireturn, 1) := by decide +kernel
set_option maxRecDepth 20000 in
def kX9_peeksDigit_0 (g : sk_G) (d ck sk : Nat) (Q : sk_P) : sk_K := o_aload 0 (o_invB (g, d, ck, sk, xX9_peeksDigit, Q) xX9_peek 0 9 0 0 (o_istore 1 (o_iload 1 (o_i (48) (o_iclt (o_i (0) (o_zret (g, d, ck, sk, xX9_peeksDigit, Q))) (o_iload 1 (o_i (57) (o_icgt (o_i (0) (o_zret (g, d, ck, sk, xX9_peeksDigit, Q))) (o_i (1) (o_zret (g, d, ck, sk, xX9_peeksDigit, Q)))))))))))
set_option maxRecDepth 20000 in
theorem tX9_peeksDigit_0 {g : sk_G} {d ck sk : Nat} {Q : sk_P} : sk_S (g, d, ck, sk, xX9_peeksDigit, Q) 0 (kX9_peeksDigit_0 g d ck sk Q) := s_aload_n dX9_peeksDigit_0 rfl (s_invB (w' := (g, d, ck, sk, xX9_peeksDigit, Q)) (ci := 9) (ck := 0) (sk := 0) (T := TX9) (N := 3) dX9_peeksDigit_1 m_X9_peek rfl (by decide) qm_X9_26 qi_X9_peek qe_X9_peek rfl (s_istore_n dX9_peeksDigit_4 rfl (by decide : 1 < 2) (s_iload_n dX9_peeksDigit_5 rfl (s_bipush dX9_peeksDigit_6 rfl (s_iclt (tgt := 21) dX9_peeksDigit_8 (by decide) (s_iconst dX9_peeksDigit_21 (s_zret dX9_peeksDigit_22 rfl)) (s_iload_n dX9_peeksDigit_11 rfl (s_bipush dX9_peeksDigit_12 rfl (s_icgt (tgt := 21) dX9_peeksDigit_14 (by decide) (s_iconst dX9_peeksDigit_21 (s_zret dX9_peeksDigit_22 rfl)) (s_iconst dX9_peeksDigit_17 (s_goto (tgt := 22) dX9_peeksDigit_18 (by decide) (s_zret dX9_peeksDigit_22 rfl)))))))))))
