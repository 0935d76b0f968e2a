theorem dX12_clean_0 : decode cX12_clean 0 = .ok (.iconst 0, 1) := by decide +kernel
theorem dX12_clean_1 : decode cX12_clean 1 = .ok (.istore_n 2, 1) := by decide +kernel
theorem dX12_clean_2 : decode cX12_clean 2 = .ok (.aload_n 0, 1) := by decide +kernel
theorem dX12_clean_3 : decode cX12_clean 3 = .ok (.getfield 61, 3) := by decide +kernel
theorem dX12_clean_6 : decode cX12_clean 6 = .ok (.iconst 0, 1) := by decide +kernel
theorem dX12_clean_7 : decode cX12_clean 7 = .ok (.iload_n 1, 1) := by decide +kernel
theorem dX12_clean_8 : decode cX12_clean 8 = .ok (.iadd, 1) := by decide +kernel
theorem dX12_clean_9 : decode cX12_clean 9 = .ok (.iaload, 1) := by decide +kernel
theorem dX12_clean_10 : decode cX12_clean 10 = .ok (.istore_n 3, 1) := by decide +kernel
theorem dX12_clean_11 : decode cX12_clean 11 = .ok (.iconst 0, 1) := by decide +kernel
theorem dX12_clean_12 : decode cX12_clean 12 = .ok (.istore 4, 2) := by decide +kernel
theorem dX12_clean_14 : decode cX12_clean 14 = .ok (.iload 4, 2) := by decide +kernel
theorem dX12_clean_16 : decode cX12_clean 16 = .ok (.iload_n 3, 1) := by decide +kernel
theorem dX12_clean_17 : decode cX12_clean 17 = .ok (.if_icmp .ge 55, 3) := by decide +kernel
theorem dX12_clean_20 : decode cX12_clean 20 = .ok (.aload_n 0, 1) := by decide +kernel
theorem dX12_clean_21 : decode cX12_clean 21 = .ok (.iload_n 1, 1) := by decide +kernel
theorem dX12_clean_22 : decode cX12_clean 22 = .ok (.iload 4, 2) := by decide +kernel
theorem dX12_clean_24 : decode cX12_clean 24 = .ok (.iconst 2, 1) := by decide +kernel
theorem dX12_clean_25 : decode cX12_clean 25 = .ok (.invokevirtual 295, 3) := by decide +kernel
theorem dX12_clean_28 : decode cX12_clean 28 = .ok (.ifCond .le 38, 3) := by decide +kernel
theorem dX12_clean_31 : decode cX12_clean 31 = .ok (.iconst 0, 1) := by decide +kernel
theorem dX12_clean_32 : decode cX12_clean 32 = .ok (.istore 5, 2) := by decide +kernel
theorem dX12_clean_34 : decode cX12_clean 34 = .ok (.iload 5, 2) := by decide +kernel
theorem dX12_clean_36 : decode cX12_clean 36 = .ok (.iconst 3, 1) := by decide +kernel
theorem dX12_clean_37 : decode cX12_clean 37 = .ok (.if_icmp .ge 26, 3) := by decide +kernel
theorem dX12_clean_40 : decode cX12_clean 40 = .ok (.aload_n 0, 1) := by decide +kernel
theorem dX12_clean_41 : decode cX12_clean 41 = .ok (.iload_n 1, 1) := by decide +kernel
theorem dX12_clean_42 : decode cX12_clean 42 = .ok (.iload_n 2, 1) := by decide +kernel
theorem dX12_clean_43 : decode cX12_clean 43 = .ok (.iload 5, 2) := by decide +kernel
theorem dX12_clean_45 : decode cX12_clean 45 = .ok (.aload_n 0, 1) := by decide +kernel
theorem dX12_clean_46 : decode cX12_clean 46 = .ok (.iload_n 1, 1) := by decide +kernel
theorem dX12_clean_47 : decode cX12_clean 47 = .ok (.iload 4, 2) := by decide +kernel
theorem dX12_clean_49 : decode cX12_clean 49 = .ok (.iload 5, 2) := by decide +kernel
theorem dX12_clean_51 : decode cX12_clean 51 = .ok (.invokevirtual 295, 3) := by decide +kernel
theorem dX12_clean_54 : decode cX12_clean 54 = .ok (.invokevirtual 310, 3) := by decide +kernel
theorem dX12_clean_57 : decode cX12_clean 57 = .ok (.iinc 5 1, 3) := by decide +kernel
theorem dX12_clean_60 : decode cX12_clean 60 = .ok (.goto (-26), 3) := by decide +kernel
theorem dX12_clean_63 : decode cX12_clean 63 = .ok (.iinc 2 1, 3) := by decide +kernel
theorem dX12_clean_66 : decode cX12_clean 66 = .ok (.iinc 4 1, 3) := by decide +kernel
theorem dX12_clean_69 : decode cX12_clean 69 = .ok (.goto (-55), 3) := by decide +kernel
theorem dX12_clean_72 : decode cX12_clean 72 = .ok (.aload_n 0, 1) := by decide +kernel
theorem dX12_clean_73 : decode cX12_clean 73 = .ok (.getfield 61, 3) := by decide +kernel
theorem dX12_clean_76 : decode cX12_clean 76 = .ok (.iconst 0, 1) := by decide +kernel
theorem dX12_clean_77 : decode cX12_clean 77 = .ok (.iload_n 1, 1) := by decide +kernel
theorem dX12_clean_78 : decode cX12_clean 78 = .ok (.iadd, 1) := by decide +kernel
theorem dX12_clean_79 : decode cX12_clean 79 = .ok (.iload_n 2, 1) := by decide +kernel
theorem dX12_clean_80 : decode cX12_clean 80 = .ok (.iastore, 1) := by decide +kernel
theorem dX12_clean_81 : decode cX12_clean 81 = .ok (.iload_n 3, 1) := by decide +kernel
theorem dX12_clean_82 : decode cX12_clean 82 = .ok (.iload_n 2, 1) := by decide +kernel
theorem dX12_clean_83 : decode cX12_clean 83 = .ok (.isub, 1) := by decide +kernel
theorem dX12_clean_84 : decode cX12_clean 84 = .ok (.ireturn, 1) := by decide +kernel
def kX12_clean_0 (g : sk_G) (d ck sk : Nat) (Q : sk_P) : sk_K := o_i (0) (o_istore 2 (o_aload 0 (o_getf 12 28 (o_i (0) (o_iload 1 (o_iadd (o_iaload (o_istore 3 (o_i (0) (o_istore 4 (sk_B (g, d, ck, sk, xX12_clean, Q) 14)))))))))))
theorem tX12_clean_0 {g : sk_G} {d ck sk : Nat} {Q : sk_P} : sk_S (g, d, ck, sk, xX12_clean, Q) 0 (kX12_clean_0 g d ck sk Q) := s_iconst dX12_clean_0 (s_istore_n dX12_clean_1 rfl (by decide : 2 < 6) (s_aload_n dX12_clean_2 rfl (s_getf (ci := 12) (j := 28) (C := RX12) (T := TX12) (N := 49) dX12_clean_3 rfl (by decide) (by decide) qf_X12_61 (s_iconst dX12_clean_6 (s_iload_n dX12_clean_7 rfl (s_iadd dX12_clean_8 (s_iaload dX12_clean_9 (s_istore_n dX12_clean_10 rfl (by decide : 3 < 6) (s_iconst dX12_clean_11 (s_istore dX12_clean_12 (by decide : 4 < 6) (sk_id)))))))))))
set_option maxRecDepth 20000 in
def kX12_clean_14 (g : sk_G) (d ck sk : Nat) (Q : sk_P) : sk_K := o_iload 4 (o_iload 3 (o_icge (o_aload 0 (o_getf 12 28 (o_i (0) (o_iload 1 (o_iadd (o_iload 2 (o_iastore (o_iload 3 (o_iload 2 (o_isub (o_iret (g, d, ck, sk, xX12_clean, Q)))))))))))) (o_aload 0 (o_iload 1 (o_iload 4 (o_i (2) (o_invT (g, d, ck, sk, xX12_clean, Q) 4 3 12 (fun Q => kX12_of_0 g (d - 1) 0 0 Q) (o_ifle (o_iinc 4 (1) (sk_B (g, d, ck, sk, xX12_clean, Q) 14)) (o_i (0) (o_istore 5 (sk_B (g, d, ck, sk, xX12_clean, Q) 34)))))))))))
set_option maxRecDepth 20000 in
theorem tX12_clean_14 {g : sk_G} {d ck sk : Nat} {Q : sk_P} : sk_S (g, d, ck, sk, xX12_clean, Q) 14 (kX12_clean_14 g d ck sk Q) := s_iload dX12_clean_14 (s_iload_n dX12_clean_16 rfl (s_icge (tgt := 72) dX12_clean_17 (by decide) (s_aload_n dX12_clean_72 rfl (s_getf (ci := 12) (j := 28) (C := RX12) (T := TX12) (N := 49) dX12_clean_73 rfl (by decide) (by decide) qf_X12_61 (s_iconst dX12_clean_76 (s_iload_n dX12_clean_77 rfl (s_iadd dX12_clean_78 (s_iload_n dX12_clean_79 rfl (s_iastore dX12_clean_80 (s_iload_n dX12_clean_81 rfl (s_iload_n dX12_clean_82 rfl (s_isub dX12_clean_83 (s_iret dX12_clean_84 rfl))))))))))) (s_aload_n dX12_clean_20 rfl (s_iload_n dX12_clean_21 rfl (s_iload dX12_clean_22 (s_iconst dX12_clean_24 (s_invT (X := xX12_of) (ci := 12) (T := TX12) (N := 49) (K := (fun Q => kX12_of_0 g (d - 1) 0 0 Q)) (fun _ => tX12_of_0) rfl dX12_clean_25 m_X12_of rfl (by decide) qm_X12_295 qi_X12_of qe_X12_of (s_ifle (tgt := 66) dX12_clean_28 (by decide) (s_iinc dX12_clean_66 (by decide : 4 < 6) (s_goto (tgt := 14) dX12_clean_69 (by decide) (sk_id))) (s_iconst dX12_clean_31 (s_istore dX12_clean_32 (by decide : 5 < 6) (sk_id)))))))))))
set_option maxRecDepth 20000 in
def kX12_clean_34 (g : sk_G) (d ck sk : Nat) (Q : sk_P) : sk_K := o_iload 5 (o_i (3) (o_icge (o_iinc 2 (1) (o_iinc 4 (1) (sk_B (g, d, ck, sk, xX12_clean, Q) 14))) (o_aload 0 (o_iload 1 (o_iload 2 (o_iload 5 (o_aload 0 (o_iload 1 (o_iload 4 (o_iload 5 (o_invT (g, d, ck, sk, xX12_clean, Q) 4 3 12 (fun Q => kX12_of_0 g (d - 1) 0 0 Q) (o_invT (g, d, ck, sk, xX12_clean, Q) 5 4 12 (fun Q => kX12_setOf_0 g (d - 1) 0 0 Q) (o_iinc 5 (1) (sk_B (g, d, ck, sk, xX12_clean, Q) 34))))))))))))))
set_option maxRecDepth 20000 in
theorem tX12_clean_34 {g : sk_G} {d ck sk : Nat} {Q : sk_P} : sk_S (g, d, ck, sk, xX12_clean, Q) 34 (kX12_clean_34 g d ck sk Q) := s_iload dX12_clean_34 (s_iconst dX12_clean_36 (s_icge (tgt := 63) dX12_clean_37 (by decide) (s_iinc dX12_clean_63 (by decide : 2 < 6) (s_iinc dX12_clean_66 (by decide : 4 < 6) (s_goto (tgt := 14) dX12_clean_69 (by decide) (sk_id)))) (s_aload_n dX12_clean_40 rfl (s_iload_n dX12_clean_41 rfl (s_iload_n dX12_clean_42 rfl (s_iload dX12_clean_43 (s_aload_n dX12_clean_45 rfl (s_iload_n dX12_clean_46 rfl (s_iload dX12_clean_47 (s_iload dX12_clean_49 (s_invT (X := xX12_of) (ci := 12) (T := TX12) (N := 49) (K := (fun Q => kX12_of_0 g (d - 1) 0 0 Q)) (fun _ => tX12_of_0) rfl dX12_clean_51 m_X12_of rfl (by decide) qm_X12_295 qi_X12_of qe_X12_of (s_invT (X := xX12_setOf) (ci := 12) (T := TX12) (N := 49) (K := (fun Q => kX12_setOf_0 g (d - 1) 0 0 Q)) (fun _ => tX12_setOf_0) rfl dX12_clean_54 m_X12_setOf rfl (by decide) qm_X12_310 qi_X12_setOf qe_X12_setOf (s_iinc dX12_clean_57 (by decide : 5 < 6) (s_goto (tgt := 34) dX12_clean_60 (by decide) (sk_id)))))))))))))))
theorem dX12_ages_0 : decode cX12_ages 0 = .ok (.aload_n 0, 1) := by decide +kernel
theorem dX12_ages_1 : decode cX12_ages 1 = .ok (.aload_n 0, 1) := by decide +kernel
theorem dX12_ages_2 : decode cX12_ages 2 = .ok (.getfield 273, 3) := by decide +kernel
theorem dX12_ages_5 : decode cX12_ages 5 = .ok (.ifCond .ne 7, 3) := by decide +kernel
theorem dX12_ages_8 : decode cX12_ages 8 = .ok (.iconst 0, 1) := by decide +kernel
theorem dX12_ages_9 : decode cX12_ages 9 = .ok (.goto 30, 3) := by decide +kernel
theorem dX12_ages_12 : decode cX12_ages 12 = .ok (.iload_n 1, 1) := by decide +kernel
theorem dX12_ages_13 : decode cX12_ages 13 = .ok (.iconst 1, 1) := by decide +kernel
theorem dX12_ages_14 : decode cX12_ages 14 = .ok (.bipush 30, 2) := by decide +kernel
theorem dX12_ages_16 : decode cX12_ages 16 = .ok (.invokestatic 224, 3) := by decide +kernel
theorem dX12_ages_19 : decode cX12_ages 19 = .ok (.ifCond .ne 7, 3) := by decide +kernel
theorem dX12_ages_22 : decode cX12_ages 22 = .ok (.iconst 1, 1) := by decide +kernel
theorem dX12_ages_23 : decode cX12_ages 23 = .ok (.goto 16, 3) := by decide +kernel
theorem dX12_ages_26 : decode cX12_ages 26 = .ok (.aload_n 0, 1) := by decide +kernel
theorem dX12_ages_27 : decode cX12_ages 27 = .ok (.iload_n 1, 1) := by decide +kernel
theorem dX12_ages_28 : decode cX12_ages 28 = .ok (.invokevirtual 385, 3) := by decide +kernel
theorem dX12_ages_31 : decode cX12_ages 31 = .ok (.ifCond .ne 7, 3) := by decide +kernel
theorem dX12_ages_34 : decode cX12_ages 34 = .ok (.iconst 4, 1) := by decide +kernel
theorem dX12_ages_35 : decode cX12_ages 35 = .ok (.goto 4, 3) := by decide +kernel
theorem dX12_ages_38 : decode cX12_ages 38 = .ok (.iconst (-1), 1) := by decide +kernel
theorem dX12_ages_39 : decode cX12_ages 39 = .ok (.invokevirtual 364, 3) := by decide +kernel
theorem dX12_ages_42 : decode cX12_ages 42 = .ok (.ifCond .eq 5, 3) := by decide +kernel
theorem dX12_ages_45 : decode cX12_ages 45 = .ok (.iconst (-1), 1) := by decide +kernel
theorem dX12_ages_46 : decode cX12_ages 46 = .ok (.ireturn, 1) := by decide +kernel
theorem dX12_ages_47 : decode cX12_ages 47 = .ok (.iconst 0, 1) := by decide +kernel
theorem dX12_ages_48 : decode cX12_ages 48 = .ok (.istore_n 2, 1) := by decide +kernel
theorem dX12_ages_49 : decode cX12_ages 49 = .ok (.iload_n 2, 1) := by decide +kernel
theorem dX12_ages_50 : decode cX12_ages 50 = .ok (.iload_n 1, 1) := by decide +kernel
theorem dX12_ages_51 : decode cX12_ages 51 = .ok (.if_icmp .ge 17, 3) := by decide +kernel
theorem dX12_ages_54 : decode cX12_ages 54 = .ok (.aload_n 0, 1) := by decide +kernel
theorem dX12_ages_55 : decode cX12_ages 55 = .ok (.invokevirtual 367, 3) := by decide +kernel
theorem dX12_ages_58 : decode cX12_ages 58 = .ok (.aload_n 0, 1) := by decide +kernel
theorem dX12_ages_59 : decode cX12_ages 59 = .ok (.invokevirtual 388, 3) := by decide +kernel
theorem dX12_ages_62 : decode cX12_ages 62 = .ok (.iinc 2 1, 3) := by decide +kernel
theorem dX12_ages_65 : decode cX12_ages 65 = .ok (.goto (-16), 3) := by decide +kernel
theorem dX12_ages_68 : decode cX12_ages 68 = .ok (.aload_n 0, 1) := by decide +kernel
theorem dX12_ages_69 : decode cX12_ages 69 = .ok (.getfield 61, 3) := by decide +kernel
theorem dX12_ages_72 : decode cX12_ages 72 = .ok (.sipush 761, 3) := by decide +kernel
theorem dX12_ages_75 : decode cX12_ages 75 = .ok (.iaload, 1) := by decide +kernel
theorem dX12_ages_76 : decode cX12_ages 76 = .ok (.ireturn, 1) := by decide +kernel
set_option maxRecDepth 20000 in
def kX12_ages_0 (g : sk_G) (d ck sk : Nat) (Q : sk_P) : sk_K := o_aload 0 (o_aload 0 (o_getf 12 23 (o_ifne (o_iload 1 (o_i (1) (o_i (30) (o_stcT (g, d, ck, sk, xX12_ages, Q) 3 3 (fun Q => kX12_in_0 g (d - 1) 0 0 Q) (o_ifne (o_aload 0 (o_iload 1 (o_invT (g, d, ck, sk, xX12_ages, Q) 2 1 12 (fun Q => kX12_areYears_0 g (d - 1) 0 0 Q) (o_ifne (o_i (-1) (o_invT (g, d, ck, sk, xX12_ages, Q) 2 1 12 (fun Q => kX12_isRefused_0 g (d - 1) 0 0 Q) (o_ifeq (o_i (0) (o_istore 2 (sk_B (g, d, ck, sk, xX12_ages, Q) 49))) (o_i (-1) (o_iret (g, d, ck, sk, xX12_ages, Q)))))) (o_i (4) (o_invT (g, d, ck, sk, xX12_ages, Q) 2 1 12 (fun Q => kX12_isRefused_0 g (d - 1) 0 0 Q) (o_ifeq (o_i (0) (o_istore 2 (sk_B (g, d, ck, sk, xX12_ages, Q) 49))) (o_i (-1) (o_iret (g, d, ck, sk, xX12_ages, Q)))))))))) (o_i (1) (o_invT (g, d, ck, sk, xX12_ages, Q) 2 1 12 (fun Q => kX12_isRefused_0 g (d - 1) 0 0 Q) (o_ifeq (o_i (0) (o_istore 2 (sk_B (g, d, ck, sk, xX12_ages, Q) 49))) (o_i (-1) (o_iret (g, d, ck, sk, xX12_ages, Q))))))))))) (o_i (0) (o_invT (g, d, ck, sk, xX12_ages, Q) 2 1 12 (fun Q => kX12_isRefused_0 g (d - 1) 0 0 Q) (o_ifeq (o_i (0) (o_istore 2 (sk_B (g, d, ck, sk, xX12_ages, Q) 49))) (o_i (-1) (o_iret (g, d, ck, sk, xX12_ages, Q)))))))))
set_option maxRecDepth 20000 in
theorem tX12_ages_0 {g : sk_G} {d ck sk : Nat} {Q : sk_P} : sk_S (g, d, ck, sk, xX12_ages, Q) 0 (kX12_ages_0 g d ck sk Q) := s_aload_n dX12_ages_0 rfl (s_aload_n dX12_ages_1 rfl (s_getf (ci := 12) (j := 23) (C := RX12) (T := TX12) (N := 49) dX12_ages_2 rfl (by decide) (by decide) qf_X12_273 (s_ifne (tgt := 12) dX12_ages_5 (by decide) (s_iload_n dX12_ages_12 rfl (s_iconst dX12_ages_13 (s_bipush dX12_ages_14 rfl (s_stcT (X := xX12_in) (K := (fun Q => kX12_in_0 g (d - 1) 0 0 Q)) (fun _ => tX12_in_0) rfl dX12_ages_16 m_X12_in qm_X12_224 qs_X12_in (s_ifne (tgt := 26) dX12_ages_19 (by decide) (s_aload_n dX12_ages_26 rfl (s_iload_n dX12_ages_27 rfl (s_invT (X := xX12_areYears) (ci := 12) (T := TX12) (N := 49) (K := (fun Q => kX12_areYears_0 g (d - 1) 0 0 Q)) (fun _ => tX12_areYears_0) rfl dX12_ages_28 m_X12_areYears rfl (by decide) qm_X12_385 qi_X12_areYears qe_X12_areYears (s_ifne (tgt := 38) dX12_ages_31 (by decide) (s_iconst dX12_ages_38 (s_invT (X := xX12_isRefused) (ci := 12) (T := TX12) (N := 49) (K := (fun Q => kX12_isRefused_0 g (d - 1) 0 0 Q)) (fun _ => tX12_isRefused_0) rfl dX12_ages_39 m_X12_isRefused rfl (by decide) qm_X12_364 qi_X12_isRefused qe_X12_isRefused (s_ifeq (tgt := 47) dX12_ages_42 (by decide) (s_iconst dX12_ages_47 (s_istore_n dX12_ages_48 rfl (by decide : 2 < 3) (sk_id))) (s_iconst dX12_ages_45 (s_iret dX12_ages_46 rfl))))) (s_iconst dX12_ages_34 (s_goto (tgt := 39) dX12_ages_35 (by decide) (s_invT (X := xX12_isRefused) (ci := 12) (T := TX12) (N := 49) (K := (fun Q => kX12_isRefused_0 g (d - 1) 0 0 Q)) (fun _ => tX12_isRefused_0) rfl dX12_ages_39 m_X12_isRefused rfl (by decide) qm_X12_364 qi_X12_isRefused qe_X12_isRefused (s_ifeq (tgt := 47) dX12_ages_42 (by decide) (s_iconst dX12_ages_47 (s_istore_n dX12_ages_48 rfl (by decide : 2 < 3) (sk_id))) (s_iconst dX12_ages_45 (s_iret dX12_ages_46 rfl)))))))))) (s_iconst dX12_ages_22 (s_goto (tgt := 39) dX12_ages_23 (by decide) (s_invT (X := xX12_isRefused) (ci := 12) (T := TX12) (N := 49) (K := (fun Q => kX12_isRefused_0 g (d - 1) 0 0 Q)) (fun _ => tX12_isRefused_0) rfl dX12_ages_39 m_X12_isRefused rfl (by decide) qm_X12_364 qi_X12_isRefused qe_X12_isRefused (s_ifeq (tgt := 47) dX12_ages_42 (by decide) (s_iconst dX12_ages_47 (s_istore_n dX12_ages_48 rfl (by decide : 2 < 3) (sk_id))) (s_iconst dX12_ages_45 (s_iret dX12_ages_46 rfl))))))))))) (s_iconst dX12_ages_8 (s_goto (tgt := 39) dX12_ages_9 (by decide) (s_invT (X := xX12_isRefused) (ci := 12) (T := TX12) (N := 49) (K := (fun Q => kX12_isRefused_0 g (d - 1) 0 0 Q)) (fun _ => tX12_isRefused_0) rfl dX12_ages_39 m_X12_isRefused rfl (by decide) qm_X12_364 qi_X12_isRefused qe_X12_isRefused (s_ifeq (tgt := 47) dX12_ages_42 (by decide) (s_iconst dX12_ages_47 (s_istore_n dX12_ages_48 rfl (by decide : 2 < 3) (sk_id))) (s_iconst dX12_ages_45 (s_iret dX12_ages_46 rfl)))))))))
set_option maxRecDepth 20000 in
def kX12_ages_49 (g : sk_G) (d ck sk : Nat) (Q : sk_P) : sk_K := o_iload 2 (o_iload 1 (o_icge (o_aload 0 (o_getf 12 28 (o_i (761) (o_iaload (o_iret (g, d, ck, sk, xX12_ages, Q)))))) (o_aload 0 (o_invB (g, d, ck, sk, xX12_ages, Q) xX12_keep 0 12 0 0 (o_aload 0 (o_invB (g, d, ck, sk, xX12_ages, Q) xX12_passYear 0 12 0 0 (o_iinc 2 (1) (sk_B (g, d, ck, sk, xX12_ages, Q) 49))))))))
set_option maxRecDepth 20000 in
theorem tX12_ages_49 {g : sk_G} {d ck sk : Nat} {Q : sk_P} : sk_S (g, d, ck, sk, xX12_ages, Q) 49 (kX12_ages_49 g d ck sk Q) := s_iload_n dX12_ages_49 rfl (s_iload_n dX12_ages_50 rfl (s_icge (tgt := 68) dX12_ages_51 (by decide) (s_aload_n dX12_ages_68 rfl (s_getf (ci := 12) (j := 28) (C := RX12) (T := TX12) (N := 49) dX12_ages_69 rfl (by decide) (by decide) qf_X12_61 (s_sipush dX12_ages_72 rfl (s_iaload dX12_ages_75 (s_iret dX12_ages_76 rfl))))) (s_aload_n dX12_ages_54 rfl (s_invB (w' := (g, d, ck, sk, xX12_ages, Q)) (ci := 12) (ck := 0) (sk := 0) (T := TX12) (N := 49) dX12_ages_55 m_X12_keep rfl (by decide) qm_X12_367 qi_X12_keep qe_X12_keep rfl (s_aload_n dX12_ages_58 rfl (s_invB (w' := (g, d, ck, sk, xX12_ages, Q)) (ci := 12) (ck := 0) (sk := 0) (T := TX12) (N := 49) dX12_ages_59 m_X12_passYear rfl (by decide) qm_X12_388 qi_X12_passYear qe_X12_passYear rfl (s_iinc dX12_ages_62 (by decide : 2 < 3) (s_goto (tgt := 49) dX12_ages_65 (by decide) (sk_id)))))))))
theorem dX12_passYear_0 : decode cX12_passYear 0 = .ok (.aload_n 0, 1) := by decide +kernel
theorem dX12_passYear_1 : decode cX12_passYear 1 = .ok (.invokevirtual 327, 3) := by decide +kernel
theorem dX12_passYear_4 : decode cX12_passYear 4 = .ok (.istore_n 1, 1) := by decide +kernel
theorem dX12_passYear_5 : decode cX12_passYear 5 = .ok (.aload_n 0, 1) := by decide +kernel
theorem dX12_passYear_6 : decode cX12_passYear 6 = .ok (.getfield 61, 3) := by decide +kernel
theorem dX12_passYear_9 : decode cX12_passYear 9 = .ok (.sipush 762, 3) := by decide +kernel
theorem dX12_passYear_12 : decode cX12_passYear 12 = .ok (.iaload, 1) := by decide +kernel
theorem dX12_passYear_13 : decode cX12_passYear 13 = .ok (.bipush 60, 2) := by decide +kernel
theorem dX12_passYear_15 : decode cX12_passYear 15 = .ok (.if_icmp .ne 52, 3) := by decide +kernel
theorem dX12_passYear_18 : decode cX12_passYear 18 = .ok (.iconst 3, 1) := by decide +kernel
theorem dX12_passYear_19 : decode cX12_passYear 19 = .ok (.istore_n 2, 1) := by decide +kernel
theorem dX12_passYear_20 : decode cX12_passYear 20 = .ok (.iload_n 2, 1) := by decide +kernel
theorem dX12_passYear_21 : decode cX12_passYear 21 = .ok (.sipush 180, 3) := by decide +kernel
theorem dX12_passYear_24 : decode cX12_passYear 24 = .ok (.if_icmp .ge 31, 3) := by decide +kernel
theorem dX12_passYear_27 : decode cX12_passYear 27 = .ok (.aload_n 0, 1) := by decide +kernel
theorem dX12_passYear_28 : decode cX12_passYear 28 = .ok (.getfield 61, 3) := by decide +kernel
theorem dX12_passYear_31 : decode cX12_passYear 31 = .ok (.sipush 763, 3) := by decide +kernel
theorem dX12_passYear_34 : decode cX12_passYear 34 = .ok (.iload_n 2, 1) := by decide +kernel
theorem dX12_passYear_35 : decode cX12_passYear 35 = .ok (.iadd, 1) := by decide +kernel
theorem dX12_passYear_36 : decode cX12_passYear 36 = .ok (.iconst 3, 1) := by decide +kernel
theorem dX12_passYear_37 : decode cX12_passYear 37 = .ok (.isub, 1) := by decide +kernel
theorem dX12_passYear_38 : decode cX12_passYear 38 = .ok (.aload_n 0, 1) := by decide +kernel
theorem dX12_passYear_39 : decode cX12_passYear 39 = .ok (.getfield 61, 3) := by decide +kernel
theorem dX12_passYear_42 : decode cX12_passYear 42 = .ok (.sipush 763, 3) := by decide +kernel
theorem dX12_passYear_45 : decode cX12_passYear 45 = .ok (.iload_n 2, 1) := by decide +kernel
theorem dX12_passYear_46 : decode cX12_passYear 46 = .ok (.iadd, 1) := by decide +kernel
theorem dX12_passYear_47 : decode cX12_passYear 47 = .ok (.iaload, 1) := by decide +kernel
theorem dX12_passYear_48 : decode cX12_passYear 48 = .ok (.iastore, 1) := by decide +kernel
theorem dX12_passYear_49 : decode cX12_passYear 49 = .ok (.iinc 2 1, 3) := by decide +kernel
theorem dX12_passYear_52 : decode cX12_passYear 52 = .ok (.goto (-32), 3) := by decide +kernel
theorem dX12_passYear_55 : decode cX12_passYear 55 = .ok (.aload_n 0, 1) := by decide +kernel
theorem dX12_passYear_56 : decode cX12_passYear 56 = .ok (.getfield 61, 3) := by decide +kernel
theorem dX12_passYear_59 : decode cX12_passYear 59 = .ok (.sipush 762, 3) := by decide +kernel
theorem dX12_passYear_62 : decode cX12_passYear 62 = .ok (.dup2, 1) := by decide +kernel
theorem dX12_passYear_63 : decode cX12_passYear 63 = .ok (.iaload, 1) := by decide +kernel
theorem dX12_passYear_64 : decode cX12_passYear 64 = .ok (.iconst 1, 1) := by decide +kernel
theorem dX12_passYear_65 : decode cX12_passYear 65 = .ok (.isub, 1) := by decide +kernel
theorem dX12_passYear_66 : decode cX12_passYear 66 = .ok (.iastore, 1) := by decide +kernel
theorem dX12_passYear_67 : decode cX12_passYear 67 = .ok (.sipush 763, 3) := by decide +kernel
theorem dX12_passYear_70 : decode cX12_passYear 70 = .ok (.iconst 3, 1) := by decide +kernel
theorem dX12_passYear_71 : decode cX12_passYear 71 = .ok (.aload_n 0, 1) := by decide +kernel
theorem dX12_passYear_72 : decode cX12_passYear 72 = .ok (.getfield 61, 3) := by decide +kernel
theorem dX12_passYear_75 : decode cX12_passYear 75 = .ok (.sipush 762, 3) := by decide +kernel
theorem dX12_passYear_78 : decode cX12_passYear 78 = .ok (.iaload, 1) := by decide +kernel
theorem dX12_passYear_79 : decode cX12_passYear 79 = .ok (.imul, 1) := by decide +kernel
theorem dX12_passYear_80 : decode cX12_passYear 80 = .ok (.iadd, 1) := by decide +kernel
theorem dX12_passYear_81 : decode cX12_passYear 81 = .ok (.istore_n 2, 1) := by decide +kernel
theorem dX12_passYear_82 : decode cX12_passYear 82 = .ok (.aload_n 0, 1) := by decide +kernel
theorem dX12_passYear_83 : decode cX12_passYear 83 = .ok (.getfield 61, 3) := by decide +kernel
theorem dX12_passYear_86 : decode cX12_passYear 86 = .ok (.iload_n 2, 1) := by decide +kernel
theorem dX12_passYear_87 : decode cX12_passYear 87 = .ok (.iload_n 1, 1) := by decide +kernel
theorem dX12_passYear_88 : decode cX12_passYear 88 = .ok (.iastore, 1) := by decide +kernel
theorem dX12_passYear_89 : decode cX12_passYear 89 = .ok (.aload_n 0, 1) := by decide +kernel
theorem dX12_passYear_90 : decode cX12_passYear 90 = .ok (.getfield 61, 3) := by decide +kernel
theorem dX12_passYear_93 : decode cX12_passYear 93 = .ok (.iload_n 2, 1) := by decide +kernel
theorem dX12_passYear_94 : decode cX12_passYear 94 = .ok (.iconst 1, 1) := by decide +kernel
theorem dX12_passYear_95 : decode cX12_passYear 95 = .ok (.iadd, 1) := by decide +kernel
theorem dX12_passYear_96 : decode cX12_passYear 96 = .ok (.aload_n 0, 1) := by decide +kernel
theorem dX12_passYear_97 : decode cX12_passYear 97 = .ok (.invokevirtual 330, 3) := by decide +kernel
theorem dX12_passYear_100 : decode cX12_passYear 100 = .ok (.iastore, 1) := by decide +kernel
theorem dX12_passYear_101 : decode cX12_passYear 101 = .ok (.aload_n 0, 1) := by decide +kernel
theorem dX12_passYear_102 : decode cX12_passYear 102 = .ok (.getfield 61, 3) := by decide +kernel
theorem dX12_passYear_105 : decode cX12_passYear 105 = .ok (.iload_n 2, 1) := by decide +kernel
theorem dX12_passYear_106 : decode cX12_passYear 106 = .ok (.iconst 2, 1) := by decide +kernel
theorem dX12_passYear_107 : decode cX12_passYear 107 = .ok (.iadd, 1) := by decide +kernel
theorem dX12_passYear_108 : decode cX12_passYear 108 = .ok (.aload_n 0, 1) := by decide +kernel
theorem dX12_passYear_109 : decode cX12_passYear 109 = .ok (.invokevirtual 333, 3) := by decide +kernel
theorem dX12_passYear_112 : decode cX12_passYear 112 = .ok (.iastore, 1) := by decide +kernel
theorem dX12_passYear_113 : decode cX12_passYear 113 = .ok (.aload_n 0, 1) := by decide +kernel
theorem dX12_passYear_114 : decode cX12_passYear 114 = .ok (.getfield 61, 3) := by decide +kernel
theorem dX12_passYear_117 : decode cX12_passYear 117 = .ok (.sipush 762, 3) := by decide +kernel
theorem dX12_passYear_120 : decode cX12_passYear 120 = .ok (.dup2, 1) := by decide +kernel
theorem dX12_passYear_121 : decode cX12_passYear 121 = .ok (.iaload, 1) := by decide +kernel
theorem dX12_passYear_122 : decode cX12_passYear 122 = .ok (.iconst 1, 1) := by decide +kernel
theorem dX12_passYear_123 : decode cX12_passYear 123 = .ok (.iadd, 1) := by decide +kernel
theorem dX12_passYear_124 : decode cX12_passYear 124 = .ok (.iastore, 1) := by decide +kernel
theorem dX12_passYear_125 : decode cX12_passYear 125 = .ok (.return_, 1) := by decide +kernel
def kX12_passYear_0 (g : sk_G) (d ck sk : Nat) (Q : sk_P) : sk_K := o_aload 0 (o_invB (g, d, ck, sk, xX12_passYear, Q) xX12_live 0 12 0 0 (o_istore 1 (o_aload 0 (o_getf 12 28 (o_i (762) (o_iaload (o_i (60) (o_icne (sk_B (g, d, ck, sk, xX12_passYear, Q) 67) (o_i (3) (o_istore 2 (sk_B (g, d, ck, sk, xX12_passYear, Q) 20)))))))))))
theorem tX12_passYear_0 {g : sk_G} {d ck sk : Nat} {Q : sk_P} : sk_S (g, d, ck, sk, xX12_passYear, Q) 0 (kX12_passYear_0 g d ck sk Q) := s_aload_n dX12_passYear_0 rfl (s_invB (w' := (g, d, ck, sk, xX12_passYear, Q)) (ci := 12) (ck := 0) (sk := 0) (T := TX12) (N := 49) dX12_passYear_1 m_X12_live rfl (by decide) qm_X12_327 qi_X12_live qe_X12_live rfl (s_istore_n dX12_passYear_4 rfl (by decide : 1 < 3) (s_aload_n dX12_passYear_5 rfl (s_getf (ci := 12) (j := 28) (C := RX12) (T := TX12) (N := 49) dX12_passYear_6 rfl (by decide) (by decide) qf_X12_61 (s_sipush dX12_passYear_9 rfl (s_iaload dX12_passYear_12 (s_bipush dX12_passYear_13 rfl (s_icne (tgt := 67) dX12_passYear_15 (by decide) (sk_id) (s_iconst dX12_passYear_18 (s_istore_n dX12_passYear_19 rfl (by decide : 2 < 3) (sk_id)))))))))))
set_option maxRecDepth 20000 in
def kX12_passYear_20 (g : sk_G) (d ck sk : Nat) (Q : sk_P) : sk_K := o_iload 2 (o_i (180) (o_icge (o_aload 0 (o_getf 12 28 (o_i (762) (o_dup2 (o_iaload (o_i (1) (o_isub (o_iastore (sk_B (g, d, ck, sk, xX12_passYear, Q) 67))))))))) (o_aload 0 (o_getf 12 28 (o_i (763) (o_iload 2 (o_iadd (o_i (3) (o_isub (o_aload 0 (o_getf 12 28 (o_i (763) (o_iload 2 (o_iadd (o_iaload (o_iastore (o_iinc 2 (1) (sk_B (g, d, ck, sk, xX12_passYear, Q) 20))))))))))))))))))
set_option maxRecDepth 20000 in
theorem tX12_passYear_20 {g : sk_G} {d ck sk : Nat} {Q : sk_P} : sk_S (g, d, ck, sk, xX12_passYear, Q) 20 (kX12_passYear_20 g d ck sk Q) := s_iload_n dX12_passYear_20 rfl (s_sipush dX12_passYear_21 rfl (s_icge (tgt := 55) dX12_passYear_24 (by decide) (s_aload_n dX12_passYear_55 rfl (s_getf (ci := 12) (j := 28) (C := RX12) (T := TX12) (N := 49) dX12_passYear_56 rfl (by decide) (by decide) qf_X12_61 (s_sipush dX12_passYear_59 rfl (s_dup2 dX12_passYear_62 (s_iaload dX12_passYear_63 (s_iconst dX12_passYear_64 (s_isub dX12_passYear_65 (s_iastore dX12_passYear_66 (sk_id))))))))) (s_aload_n dX12_passYear_27 rfl (s_getf (ci := 12) (j := 28) (C := RX12) (T := TX12) (N := 49) dX12_passYear_28 rfl (by decide) (by decide) qf_X12_61 (s_sipush dX12_passYear_31 rfl (s_iload_n dX12_passYear_34 rfl (s_iadd dX12_passYear_35 (s_iconst dX12_passYear_36 (s_isub dX12_passYear_37 (s_aload_n dX12_passYear_38 rfl (s_getf (ci := 12) (j := 28) (C := RX12) (T := TX12) (N := 49) dX12_passYear_39 rfl (by decide) (by decide) qf_X12_61 (s_sipush dX12_passYear_42 rfl (s_iload_n dX12_passYear_45 rfl (s_iadd dX12_passYear_46 (s_iaload dX12_passYear_47 (s_iastore dX12_passYear_48 (s_iinc dX12_passYear_49 (by decide : 2 < 3) (s_goto (tgt := 20) dX12_passYear_52 (by decide) (sk_id)))))))))))))))))))
set_option maxRecDepth 20000 in
def kX12_passYear_67 (g : sk_G) (d ck sk : Nat) (Q : sk_P) : sk_K := o_i (763) (o_i (3) (o_aload 0 (o_getf 12 28 (o_i (762) (o_iaload (o_imul (o_iadd (o_istore 2 (o_aload 0 (o_getf 12 28 (o_iload 2 (o_iload 1 (o_iastore (o_aload 0 (o_getf 12 28 (o_iload 2 (o_i (1) (o_iadd (o_aload 0 (o_invB (g, d, ck, sk, xX12_passYear, Q) xX12_strengthAll 0 12 0 0 (o_iastore (o_aload 0 (o_getf 12 28 (o_iload 2 (o_i (2) (o_iadd (o_aload 0 (o_invB (g, d, ck, sk, xX12_passYear, Q) xX12_shownMany 0 12 0 0 (o_iastore (o_aload 0 (o_getf 12 28 (o_i (762) (o_dup2 (o_iaload (o_i (1) (o_iadd (o_iastore (o_ret (g, d, ck, sk, xX12_passYear, Q)))))))))))))))))))))))))))))))))))))))
set_option maxRecDepth 20000 in
theorem tX12_passYear_67 {g : sk_G} {d ck sk : Nat} {Q : sk_P} : sk_S (g, d, ck, sk, xX12_passYear, Q) 67 (kX12_passYear_67 g d ck sk Q) := s_sipush dX12_passYear_67 rfl (s_iconst dX12_passYear_70 (s_aload_n dX12_passYear_71 rfl (s_getf (ci := 12) (j := 28) (C := RX12) (T := TX12) (N := 49) dX12_passYear_72 rfl (by decide) (by decide) qf_X12_61 (s_sipush dX12_passYear_75 rfl (s_iaload dX12_passYear_78 (s_imul dX12_passYear_79 (s_iadd dX12_passYear_80 (s_istore_n dX12_passYear_81 rfl (by decide : 2 < 3) (s_aload_n dX12_passYear_82 rfl (s_getf (ci := 12) (j := 28) (C := RX12) (T := TX12) (N := 49) dX12_passYear_83 rfl (by decide) (by decide) qf_X12_61 (s_iload_n dX12_passYear_86 rfl (s_iload_n dX12_passYear_87 rfl (s_iastore dX12_passYear_88 (s_aload_n dX12_passYear_89 rfl (s_getf (ci := 12) (j := 28) (C := RX12) (T := TX12) (N := 49) dX12_passYear_90 rfl (by decide) (by decide) qf_X12_61 (s_iload_n dX12_passYear_93 rfl (s_iconst dX12_passYear_94 (s_iadd dX12_passYear_95 (s_aload_n dX12_passYear_96 rfl (s_invB (w' := (g, d, ck, sk, xX12_passYear, Q)) (ci := 12) (ck := 0) (sk := 0) (T := TX12) (N := 49) dX12_passYear_97 m_X12_strengthAll rfl (by decide) qm_X12_330 qi_X12_strengthAll qe_X12_strengthAll rfl (s_iastore dX12_passYear_100 (s_aload_n dX12_passYear_101 rfl (s_getf (ci := 12) (j := 28) (C := RX12) (T := TX12) (N := 49) dX12_passYear_102 rfl (by decide) (by decide) qf_X12_61 (s_iload_n dX12_passYear_105 rfl (s_iconst dX12_passYear_106 (s_iadd dX12_passYear_107 (s_aload_n dX12_passYear_108 rfl (s_invB (w' := (g, d, ck, sk, xX12_passYear, Q)) (ci := 12) (ck := 0) (sk := 0) (T := TX12) (N := 49) dX12_passYear_109 m_X12_shownMany rfl (by decide) qm_X12_333 qi_X12_shownMany qe_X12_shownMany rfl (s_iastore dX12_passYear_112 (s_aload_n dX12_passYear_113 rfl (s_getf (ci := 12) (j := 28) (C := RX12) (T := TX12) (N := 49) dX12_passYear_114 rfl (by decide) (by decide) qf_X12_61 (s_sipush dX12_passYear_117 rfl (s_dup2 dX12_passYear_120 (s_iaload dX12_passYear_121 (s_iconst dX12_passYear_122 (s_iadd dX12_passYear_123 (s_iastore dX12_passYear_124 (s_ret dX12_passYear_125 rfl))))))))))))))))))))))))))))))))))))))
theorem dX12_live_0 : decode cX12_live 0 = .ok (.iconst 0, 1) := by decide +kernel
theorem dX12_live_1 : decode cX12_live 1 = .ok (.istore_n 1, 1) := by decide +kernel
theorem dX12_live_2 : decode cX12_live 2 = .ok (.iconst 0, 1) := by decide +kernel
theorem dX12_live_3 : decode cX12_live 3 = .ok (.istore_n 2, 1) := by decide +kernel
theorem dX12_live_4 : decode cX12_live 4 = .ok (.iload_n 2, 1) := by decide +kernel
theorem dX12_live_5 : decode cX12_live 5 = .ok (.aload_n 0, 1) := by decide +kernel
theorem dX12_live_6 : decode cX12_live 6 = .ok (.getfield 273, 3) := by decide +kernel
theorem dX12_live_9 : decode cX12_live 9 = .ok (.if_icmp .ge 62, 3) := by decide +kernel
theorem dX12_live_12 : decode cX12_live 12 = .ok (.iconst 0, 1) := by decide +kernel
theorem dX12_live_13 : decode cX12_live 13 = .ok (.istore_n 3, 1) := by decide +kernel
theorem dX12_live_14 : decode cX12_live 14 = .ok (.iload_n 3, 1) := by decide +kernel
theorem dX12_live_15 : decode cX12_live 15 = .ok (.aload_n 0, 1) := by decide +kernel
theorem dX12_live_16 : decode cX12_live 16 = .ok (.getfield 61, 3) := by decide +kernel
theorem dX12_live_19 : decode cX12_live 19 = .ok (.iconst 0, 1) := by decide +kernel
theorem dX12_live_20 : decode cX12_live 20 = .ok (.iload_n 2, 1) := by decide +kernel
theorem dX12_live_21 : decode cX12_live 21 = .ok (.iadd, 1) := by decide +kernel
theorem dX12_live_22 : decode cX12_live 22 = .ok (.iaload, 1) := by decide +kernel
theorem dX12_live_23 : decode cX12_live 23 = .ok (.if_icmp .ge 34, 3) := by decide +kernel
theorem dX12_live_26 : decode cX12_live 26 = .ok (.aload_n 0, 1) := by decide +kernel
theorem dX12_live_27 : decode cX12_live 27 = .ok (.iload_n 2, 1) := by decide +kernel
theorem dX12_live_28 : decode cX12_live 28 = .ok (.iload_n 3, 1) := by decide +kernel
theorem dX12_live_29 : decode cX12_live 29 = .ok (.iconst 2, 1) := by decide +kernel
theorem dX12_live_30 : decode cX12_live 30 = .ok (.iconst 0, 1) := by decide +kernel
theorem dX12_live_31 : decode cX12_live 31 = .ok (.aload_n 0, 1) := by decide +kernel
theorem dX12_live_32 : decode cX12_live 32 = .ok (.iload_n 2, 1) := by decide +kernel
theorem dX12_live_33 : decode cX12_live 33 = .ok (.iload_n 3, 1) := by decide +kernel
theorem dX12_live_34 : decode cX12_live 34 = .ok (.iconst 2, 1) := by decide +kernel
theorem dX12_live_35 : decode cX12_live 35 = .ok (.invokevirtual 295, 3) := by decide +kernel
theorem dX12_live_38 : decode cX12_live 38 = .ok (.aload_n 0, 1) := by decide +kernel
theorem dX12_live_39 : decode cX12_live 39 = .ok (.iload_n 2, 1) := by decide +kernel
theorem dX12_live_40 : decode cX12_live 40 = .ok (.iload_n 3, 1) := by decide +kernel
theorem dX12_live_41 : decode cX12_live 41 = .ok (.invokevirtual 321, 3) := by decide +kernel
theorem dX12_live_44 : decode cX12_live 44 = .ok (.isub, 1) := by decide +kernel
theorem dX12_live_45 : decode cX12_live 45 = .ok (.invokestatic 319, 3) := by decide +kernel
theorem dX12_live_48 : decode cX12_live 48 = .ok (.invokevirtual 310, 3) := by decide +kernel
theorem dX12_live_51 : decode cX12_live 51 = .ok (.iinc 3 1, 3) := by decide +kernel
theorem dX12_live_54 : decode cX12_live 54 = .ok (.goto (-40), 3) := by decide +kernel
theorem dX12_live_57 : decode cX12_live 57 = .ok (.iload_n 1, 1) := by decide +kernel
theorem dX12_live_58 : decode cX12_live 58 = .ok (.aload_n 0, 1) := by decide +kernel
theorem dX12_live_59 : decode cX12_live 59 = .ok (.iload_n 2, 1) := by decide +kernel
theorem dX12_live_60 : decode cX12_live 60 = .ok (.invokevirtual 324, 3) := by decide +kernel
theorem dX12_live_63 : decode cX12_live 63 = .ok (.iadd, 1) := by decide +kernel
theorem dX12_live_64 : decode cX12_live 64 = .ok (.istore_n 1, 1) := by decide +kernel
theorem dX12_live_65 : decode cX12_live 65 = .ok (.iinc 2 1, 3) := by decide +kernel
theorem dX12_live_68 : decode cX12_live 68 = .ok (.goto (-64), 3) := by decide +kernel
theorem dX12_live_71 : decode cX12_live 71 = .ok (.aload_n 0, 1) := by decide +kernel
theorem dX12_live_72 : decode cX12_live 72 = .ok (.getfield 61, 3) := by decide +kernel
theorem dX12_live_75 : decode cX12_live 75 = .ok (.sipush 761, 3) := by decide +kernel
theorem dX12_live_78 : decode cX12_live 78 = .ok (.dup2, 1) := by decide +kernel
theorem dX12_live_79 : decode cX12_live 79 = .ok (.iaload, 1) := by decide +kernel
theorem dX12_live_80 : decode cX12_live 80 = .ok (.iconst 1, 1) := by decide +kernel
theorem dX12_live_81 : decode cX12_live 81 = .ok (.iadd, 1) := by decide +kernel
theorem dX12_live_82 : decode cX12_live 82 = .ok (.iastore, 1) := by decide +kernel
theorem dX12_live_83 : decode cX12_live 83 = .ok (.iload_n 1, 1) := by decide +kernel
theorem dX12_live_84 : decode cX12_live 84 = .ok (.ireturn, 1) := by decide +kernel
def kX12_live_0 (g : sk_G) (d ck sk : Nat) (Q : sk_P) : sk_K := o_i (0) (o_istore 1 (o_i (0) (o_istore 2 (sk_B (g, d, ck, sk, xX12_live, Q) 4))))
theorem tX12_live_0 {g : sk_G} {d ck sk : Nat} {Q : sk_P} : sk_S (g, d, ck, sk, xX12_live, Q) 0 (kX12_live_0 g d ck sk Q) := s_iconst dX12_live_0 (s_istore_n dX12_live_1 rfl (by decide : 1 < 4) (s_iconst dX12_live_2 (s_istore_n dX12_live_3 rfl (by decide : 2 < 4) (sk_id))))
def kX12_live_4 (g : sk_G) (d ck sk : Nat) (Q : sk_P) : sk_K := o_iload 2 (o_aload 0 (o_getf 12 23 (o_icge (o_aload 0 (o_getf 12 28 (o_i (761) (o_dup2 (o_iaload (o_i (1) (o_iadd (o_iastore (o_iload 1 (o_iret (g, d, ck, sk, xX12_live, Q))))))))))) (o_i (0) (o_istore 3 (sk_B (g, d, ck, sk, xX12_live, Q) 14))))))
theorem tX12_live_4 {g : sk_G} {d ck sk : Nat} {Q : sk_P} : sk_S (g, d, ck, sk, xX12_live, Q) 4 (kX12_live_4 g d ck sk Q) := s_iload_n dX12_live_4 rfl (s_aload_n dX12_live_5 rfl (s_getf (ci := 12) (j := 23) (C := RX12) (T := TX12) (N := 49) dX12_live_6 rfl (by decide) (by decide) qf_X12_273 (s_icge (tgt := 71) dX12_live_9 (by decide) (s_aload_n dX12_live_71 rfl (s_getf (ci := 12) (j := 28) (C := RX12) (T := TX12) (N := 49) dX12_live_72 rfl (by decide) (by decide) qf_X12_61 (s_sipush dX12_live_75 rfl (s_dup2 dX12_live_78 (s_iaload dX12_live_79 (s_iconst dX12_live_80 (s_iadd dX12_live_81 (s_iastore dX12_live_82 (s_iload_n dX12_live_83 rfl (s_iret dX12_live_84 rfl)))))))))) (s_iconst dX12_live_12 (s_istore_n dX12_live_13 rfl (by decide : 3 < 4) (sk_id))))))
set_option maxRecDepth 20000 in
def kX12_live_14 (g : sk_G) (d ck sk : Nat) (Q : sk_P) : sk_K := o_iload 3 (o_aload 0 (o_getf 12 28 (o_i (0) (o_iload 2 (o_iadd (o_iaload (o_icge (o_iload 1 (o_aload 0 (o_iload 2 (o_invB (g, d, ck, sk, xX12_live, Q) xX12_clean 1 12 0 0 (o_iadd (o_istore 1 (o_iinc 2 (1) (sk_B (g, d, ck, sk, xX12_live, Q) 4)))))))) (o_aload 0 (o_iload 2 (o_iload 3 (o_i (2) (o_i (0) (o_aload 0 (o_iload 2 (o_iload 3 (o_i (2) (o_invT (g, d, ck, sk, xX12_live, Q) 4 3 12 (fun Q => kX12_of_0 g (d - 1) 0 0 Q) (o_aload 0 (o_iload 2 (o_iload 3 (o_invB (g, d, ck, sk, xX12_live, Q) xX12_fadesBy 2 12 0 0 (o_isub (o_max (g, d, ck, sk, xX12_live, Q) (o_invT (g, d, ck, sk, xX12_live, Q) 5 4 12 (fun Q => kX12_setOf_0 g (d - 1) 0 0 Q) (o_iinc 3 (1) (sk_B (g, d, ck, sk, xX12_live, Q) 14))))))))))))))))))))))))))
set_option maxRecDepth 20000 in
theorem tX12_live_14 {g : sk_G} {d ck sk : Nat} {Q : sk_P} : sk_S (g, d, ck, sk, xX12_live, Q) 14 (kX12_live_14 g d ck sk Q) := s_iload_n dX12_live_14 rfl (s_aload_n dX12_live_15 rfl (s_getf (ci := 12) (j := 28) (C := RX12) (T := TX12) (N := 49) dX12_live_16 rfl (by decide) (by decide) qf_X12_61 (s_iconst dX12_live_19 (s_iload_n dX12_live_20 rfl (s_iadd dX12_live_21 (s_iaload dX12_live_22 (s_icge (tgt := 57) dX12_live_23 (by decide) (s_iload_n dX12_live_57 rfl (s_aload_n dX12_live_58 rfl (s_iload_n dX12_live_59 rfl (s_invB (w' := (g, d, ck, sk, xX12_live, Q)) (ci := 12) (ck := 0) (sk := 0) (T := TX12) (N := 49) dX12_live_60 m_X12_clean rfl (by decide) qm_X12_324 qi_X12_clean qe_X12_clean rfl (s_iadd dX12_live_63 (s_istore_n dX12_live_64 rfl (by decide : 1 < 4) (s_iinc dX12_live_65 (by decide : 2 < 4) (s_goto (tgt := 4) dX12_live_68 (by decide) (sk_id))))))))) (s_aload_n dX12_live_26 rfl (s_iload_n dX12_live_27 rfl (s_iload_n dX12_live_28 rfl (s_iconst dX12_live_29 (s_iconst dX12_live_30 (s_aload_n dX12_live_31 rfl (s_iload_n dX12_live_32 rfl (s_iload_n dX12_live_33 rfl (s_iconst dX12_live_34 (s_invT (X := xX12_of) (ci := 12) (T := TX12) (N := 49) (K := (fun Q => kX12_of_0 g (d - 1) 0 0 Q)) (fun _ => tX12_of_0) rfl dX12_live_35 m_X12_of rfl (by decide) qm_X12_295 qi_X12_of qe_X12_of (s_aload_n dX12_live_38 rfl (s_iload_n dX12_live_39 rfl (s_iload_n dX12_live_40 rfl (s_invB (w' := (g, d, ck, sk, xX12_live, Q)) (ci := 12) (ck := 0) (sk := 0) (T := TX12) (N := 49) dX12_live_41 m_X12_fadesBy rfl (by decide) qm_X12_321 qi_X12_fadesBy qe_X12_fadesBy rfl (s_isub dX12_live_44 (s_max dX12_live_45 qm_X12_319 qs_Mmax qz_J9 qc_Mmax (s_invT (X := xX12_setOf) (ci := 12) (T := TX12) (N := 49) (K := (fun Q => kX12_setOf_0 g (d - 1) 0 0 Q)) (fun _ => tX12_setOf_0) rfl dX12_live_48 m_X12_setOf rfl (by decide) qm_X12_310 qi_X12_setOf qe_X12_setOf (s_iinc dX12_live_51 (by decide : 3 < 4) (s_goto (tgt := 14) dX12_live_54 (by decide) (sk_id)))))))))))))))))))))))))))
theorem dX12_fadesBy_0 : decode cX12_fadesBy 0 = .ok (.aload_n 0, 1) := by decide +kernel
theorem dX12_fadesBy_1 : decode cX12_fadesBy 1 = .ok (.iload_n 1, 1) := by decide +kernel
theorem dX12_fadesBy_2 : decode cX12_fadesBy 2 = .ok (.iload_n 2, 1) := by decide +kernel
theorem dX12_fadesBy_3 : decode cX12_fadesBy 3 = .ok (.iconst 1, 1) := by decide +kernel
theorem dX12_fadesBy_4 : decode cX12_fadesBy 4 = .ok (.invokevirtual 295, 3) := by decide +kernel
theorem dX12_fadesBy_7 : decode cX12_fadesBy 7 = .ok (.istore_n 3, 1) := by decide +kernel
theorem dX12_fadesBy_8 : decode cX12_fadesBy 8 = .ok (.aload_n 0, 1) := by decide +kernel
theorem dX12_fadesBy_9 : decode cX12_fadesBy 9 = .ok (.getfield 49, 3) := by decide +kernel
theorem dX12_fadesBy_12 : decode cX12_fadesBy 12 = .ok (.iconst 2, 1) := by decide +kernel
theorem dX12_fadesBy_13 : decode cX12_fadesBy 13 = .ok (.iload_n 3, 1) := by decide +kernel
theorem dX12_fadesBy_14 : decode cX12_fadesBy 14 = .ok (.imul, 1) := by decide +kernel
theorem dX12_fadesBy_15 : decode cX12_fadesBy 15 = .ok (.iconst 1, 1) := by decide +kernel
theorem dX12_fadesBy_16 : decode cX12_fadesBy 16 = .ok (.iadd, 1) := by decide +kernel
theorem dX12_fadesBy_17 : decode cX12_fadesBy 17 = .ok (.iaload, 1) := by decide +kernel
theorem dX12_fadesBy_18 : decode cX12_fadesBy 18 = .ok (.istore 4, 2) := by decide +kernel
theorem dX12_fadesBy_20 : decode cX12_fadesBy 20 = .ok (.aload_n 0, 1) := by decide +kernel
theorem dX12_fadesBy_21 : decode cX12_fadesBy 21 = .ok (.getfield 67, 3) := by decide +kernel
theorem dX12_fadesBy_24 : decode cX12_fadesBy 24 = .ok (.iconst (-1), 1) := by decide +kernel
theorem dX12_fadesBy_25 : decode cX12_fadesBy 25 = .ok (.if_icmp .eq 107, 3) := by decide +kernel
theorem dX12_fadesBy_28 : decode cX12_fadesBy 28 = .ok (.aload_n 0, 1) := by decide +kernel
theorem dX12_fadesBy_29 : decode cX12_fadesBy 29 = .ok (.getfield 34, 3) := by decide +kernel
theorem dX12_fadesBy_32 : decode cX12_fadesBy 32 = .ok (.iconst 0, 1) := by decide +kernel
theorem dX12_fadesBy_33 : decode cX12_fadesBy 33 = .ok (.aload_n 0, 1) := by decide +kernel
theorem dX12_fadesBy_34 : decode cX12_fadesBy 34 = .ok (.iload_n 1, 1) := by decide +kernel
theorem dX12_fadesBy_35 : decode cX12_fadesBy 35 = .ok (.iload_n 2, 1) := by decide +kernel
theorem dX12_fadesBy_36 : decode cX12_fadesBy 36 = .ok (.iconst 2, 1) := by decide +kernel
theorem dX12_fadesBy_37 : decode cX12_fadesBy 37 = .ok (.invokevirtual 295, 3) := by decide +kernel
theorem dX12_fadesBy_40 : decode cX12_fadesBy 40 = .ok (.iastore, 1) := by decide +kernel
theorem dX12_fadesBy_41 : decode cX12_fadesBy 41 = .ok (.aload_n 0, 1) := by decide +kernel
theorem dX12_fadesBy_42 : decode cX12_fadesBy 42 = .ok (.getfield 34, 3) := by decide +kernel
theorem dX12_fadesBy_45 : decode cX12_fadesBy 45 = .ok (.iconst 1, 1) := by decide +kernel
theorem dX12_fadesBy_46 : decode cX12_fadesBy 46 = .ok (.aload_n 0, 1) := by decide +kernel
theorem dX12_fadesBy_47 : decode cX12_fadesBy 47 = .ok (.getfield 61, 3) := by decide +kernel
theorem dX12_fadesBy_50 : decode cX12_fadesBy 50 = .ok (.iconst 0, 1) := by decide +kernel
theorem dX12_fadesBy_51 : decode cX12_fadesBy 51 = .ok (.iload_n 1, 1) := by decide +kernel
theorem dX12_fadesBy_52 : decode cX12_fadesBy 52 = .ok (.iadd, 1) := by decide +kernel
theorem dX12_fadesBy_53 : decode cX12_fadesBy 53 = .ok (.iaload, 1) := by decide +kernel
theorem dX12_fadesBy_54 : decode cX12_fadesBy 54 = .ok (.iconst 1, 1) := by decide +kernel
theorem dX12_fadesBy_55 : decode cX12_fadesBy 55 = .ok (.isub, 1) := by decide +kernel
theorem dX12_fadesBy_56 : decode cX12_fadesBy 56 = .ok (.iload_n 2, 1) := by decide +kernel
theorem dX12_fadesBy_57 : decode cX12_fadesBy 57 = .ok (.isub, 1) := by decide +kernel
theorem dX12_fadesBy_58 : decode cX12_fadesBy 58 = .ok (.iastore, 1) := by decide +kernel
theorem dX12_fadesBy_59 : decode cX12_fadesBy 59 = .ok (.aload_n 0, 1) := by decide +kernel
theorem dX12_fadesBy_60 : decode cX12_fadesBy 60 = .ok (.getfield 34, 3) := by decide +kernel
theorem dX12_fadesBy_63 : decode cX12_fadesBy 63 = .ok (.iconst 2, 1) := by decide +kernel
theorem dX12_fadesBy_64 : decode cX12_fadesBy 64 = .ok (.aload_n 0, 1) := by decide +kernel
theorem dX12_fadesBy_65 : decode cX12_fadesBy 65 = .ok (.getfield 49, 3) := by decide +kernel
theorem dX12_fadesBy_68 : decode cX12_fadesBy 68 = .ok (.iconst 2, 1) := by decide +kernel
theorem dX12_fadesBy_69 : decode cX12_fadesBy 69 = .ok (.iload_n 3, 1) := by decide +kernel
theorem dX12_fadesBy_70 : decode cX12_fadesBy 70 = .ok (.imul, 1) := by decide +kernel
theorem dX12_fadesBy_71 : decode cX12_fadesBy 71 = .ok (.iconst 1, 1) := by decide +kernel
theorem dX12_fadesBy_72 : decode cX12_fadesBy 72 = .ok (.iadd, 1) := by decide +kernel
theorem dX12_fadesBy_73 : decode cX12_fadesBy 73 = .ok (.iaload, 1) := by decide +kernel
theorem dX12_fadesBy_74 : decode cX12_fadesBy 74 = .ok (.iastore, 1) := by decide +kernel
theorem dX12_fadesBy_75 : decode cX12_fadesBy 75 = .ok (.aload_n 0, 1) := by decide +kernel
theorem dX12_fadesBy_76 : decode cX12_fadesBy 76 = .ok (.getfield 34, 3) := by decide +kernel
theorem dX12_fadesBy_79 : decode cX12_fadesBy 79 = .ok (.iconst 3, 1) := by decide +kernel
theorem dX12_fadesBy_80 : decode cX12_fadesBy 80 = .ok (.aload_n 0, 1) := by decide +kernel
theorem dX12_fadesBy_81 : decode cX12_fadesBy 81 = .ok (.getfield 49, 3) := by decide +kernel
theorem dX12_fadesBy_84 : decode cX12_fadesBy 84 = .ok (.iconst 2, 1) := by decide +kernel
theorem dX12_fadesBy_85 : decode cX12_fadesBy 85 = .ok (.iload_n 3, 1) := by decide +kernel
theorem dX12_fadesBy_86 : decode cX12_fadesBy 86 = .ok (.imul, 1) := by decide +kernel
theorem dX12_fadesBy_87 : decode cX12_fadesBy 87 = .ok (.iconst 0, 1) := by decide +kernel
theorem dX12_fadesBy_88 : decode cX12_fadesBy 88 = .ok (.iadd, 1) := by decide +kernel
theorem dX12_fadesBy_89 : decode cX12_fadesBy 89 = .ok (.iaload, 1) := by decide +kernel
theorem dX12_fadesBy_90 : decode cX12_fadesBy 90 = .ok (.iastore, 1) := by decide +kernel
theorem dX12_fadesBy_91 : decode cX12_fadesBy 91 = .ok (.aload_n 0, 1) := by decide +kernel
theorem dX12_fadesBy_92 : decode cX12_fadesBy 92 = .ok (.getfield 34, 3) := by decide +kernel
theorem dX12_fadesBy_95 : decode cX12_fadesBy 95 = .ok (.iconst 4, 1) := by decide +kernel
theorem dX12_fadesBy_96 : decode cX12_fadesBy 96 = .ok (.iload_n 1, 1) := by decide +kernel
theorem dX12_fadesBy_97 : decode cX12_fadesBy 97 = .ok (.aload_n 0, 1) := by decide +kernel
theorem dX12_fadesBy_98 : decode cX12_fadesBy 98 = .ok (.getfield 46, 3) := by decide +kernel
theorem dX12_fadesBy_101 : decode cX12_fadesBy 101 = .ok (.iconst 0, 1) := by decide +kernel
theorem dX12_fadesBy_102 : decode cX12_fadesBy 102 = .ok (.iaload, 1) := by decide +kernel
theorem dX12_fadesBy_103 : decode cX12_fadesBy 103 = .ok (.idiv, 1) := by decide +kernel
theorem dX12_fadesBy_104 : decode cX12_fadesBy 104 = .ok (.iastore, 1) := by decide +kernel
theorem dX12_fadesBy_105 : decode cX12_fadesBy 105 = .ok (.aload_n 0, 1) := by decide +kernel
theorem dX12_fadesBy_106 : decode cX12_fadesBy 106 = .ok (.getfield 34, 3) := by decide +kernel
theorem dX12_fadesBy_109 : decode cX12_fadesBy 109 = .ok (.iconst 5, 1) := by decide +kernel
theorem dX12_fadesBy_110 : decode cX12_fadesBy 110 = .ok (.aload_n 0, 1) := by decide +kernel
theorem dX12_fadesBy_111 : decode cX12_fadesBy 111 = .ok (.getfield 61, 3) := by decide +kernel
theorem dX12_fadesBy_114 : decode cX12_fadesBy 114 = .ok (.sipush 761, 3) := by decide +kernel
theorem dX12_fadesBy_117 : decode cX12_fadesBy 117 = .ok (.iaload, 1) := by decide +kernel
theorem dX12_fadesBy_118 : decode cX12_fadesBy 118 = .ok (.bipush 100, 2) := by decide +kernel
theorem dX12_fadesBy_120 : decode cX12_fadesBy 120 = .ok (.irem, 1) := by decide +kernel
theorem dX12_fadesBy_121 : decode cX12_fadesBy 121 = .ok (.iastore, 1) := by decide +kernel
theorem dX12_fadesBy_122 : decode cX12_fadesBy 122 = .ok (.aload_n 0, 1) := by decide +kernel
theorem dX12_fadesBy_123 : decode cX12_fadesBy 123 = .ok (.aload_n 0, 1) := by decide +kernel
theorem dX12_fadesBy_124 : decode cX12_fadesBy 124 = .ok (.getfield 67, 3) := by decide +kernel
theorem dX12_fadesBy_127 : decode cX12_fadesBy 127 = .ok (.invokevirtual 314, 3) := by decide +kernel
theorem dX12_fadesBy_130 : decode cX12_fadesBy 130 = .ok (.istore 4, 2) := by decide +kernel
theorem dX12_fadesBy_132 : decode cX12_fadesBy 132 = .ok (.iconst 0, 1) := by decide +kernel
theorem dX12_fadesBy_133 : decode cX12_fadesBy 133 = .ok (.bipush 9, 2) := by decide +kernel
theorem dX12_fadesBy_135 : decode cX12_fadesBy 135 = .ok (.iload 4, 2) := by decide +kernel
theorem dX12_fadesBy_137 : decode cX12_fadesBy 137 = .ok (.invokestatic 317, 3) := by decide +kernel
theorem dX12_fadesBy_140 : decode cX12_fadesBy 140 = .ok (.invokestatic 319, 3) := by decide +kernel
theorem dX12_fadesBy_143 : decode cX12_fadesBy 143 = .ok (.ireturn, 1) := by decide +kernel
set_option maxRecDepth 20000 in
def kX12_fadesBy_0 (g : sk_G) (d ck sk : Nat) (Q : sk_P) : sk_K := o_aload 0 (o_iload 1 (o_iload 2 (o_i (1) (o_invT (g, d, ck, sk, xX12_fadesBy, Q) 4 3 12 (fun Q => kX12_of_0 g (d - 1) 0 0 Q) (o_istore 3 (o_aload 0 (o_getf 12 21 (o_i (2) (o_iload 3 (o_imul (o_i (1) (o_iadd (o_iaload (o_istore 4 (o_aload 0 (o_getf 12 30 (o_i (-1) (o_iceq (o_i (0) (o_i (9) (o_iload 4 (o_min (g, d, ck, sk, xX12_fadesBy, Q) (o_max (g, d, ck, sk, xX12_fadesBy, Q) (o_iret (g, d, ck, sk, xX12_fadesBy, Q))))))) (o_aload 0 (o_getf 12 15 (o_i (0) (o_aload 0 (o_iload 1 (o_iload 2 (o_i (2) (o_invT (g, d, ck, sk, xX12_fadesBy, Q) 4 3 12 (fun Q => kX12_of_0 g (d - 1) 0 0 Q) (o_iastore (o_aload 0 (o_getf 12 15 (o_i (1) (o_aload 0 (o_getf 12 28 (o_i (0) (o_iload 1 (o_iadd (o_iaload (o_i (1) (o_isub (o_iload 2 (o_isub (o_iastore (o_aload 0 (o_getf 12 15 (o_i (2) (o_aload 0 (o_getf 12 21 (o_i (2) (o_iload 3 (o_imul (o_i (1) (o_iadd (o_iaload (o_iastore (o_aload 0 (o_getf 12 15 (o_i (3) (o_aload 0 (o_getf 12 21 (o_i (2) (o_iload 3 (o_imul (o_i (0) (o_iadd (o_iaload (o_iastore (o_aload 0 (o_getf 12 15 (o_i (4) (o_iload 1 (o_aload 0 (o_getf 12 20 (o_i (0) (o_iaload (o_idiv (o_iastore (o_aload 0 (o_getf 12 15 (o_i (5) (o_aload 0 (o_getf 12 28 (o_i (761) (o_iaload (o_i (100) (o_irem (o_iastore (o_aload 0 (o_aload 0 (o_getf 12 30 (o_invB (g, d, ck, sk, xX12_fadesBy, Q) xX12_worthOf 1 12 0 0 (o_istore 4 (o_i (0) (o_i (9) (o_iload 4 (o_min (g, d, ck, sk, xX12_fadesBy, Q) (o_max (g, d, ck, sk, xX12_fadesBy, Q) (o_iret (g, d, ck, sk, xX12_fadesBy, Q)))))))))))))))))))))))))))))))))))))))))))))))))))))))))))))))))))))))))))))))))))))))))))))))))
set_option maxRecDepth 20000 in
theorem tX12_fadesBy_0 {g : sk_G} {d ck sk : Nat} {Q : sk_P} : sk_S (g, d, ck, sk, xX12_fadesBy, Q) 0 (kX12_fadesBy_0 g d ck sk Q) := s_aload_n dX12_fadesBy_0 rfl (s_iload_n dX12_fadesBy_1 rfl (s_iload_n dX12_fadesBy_2 rfl (s_iconst dX12_fadesBy_3 (s_invT (X := xX12_of) (ci := 12) (T := TX12) (N := 49) (K := (fun Q => kX12_of_0 g (d - 1) 0 0 Q)) (fun _ => tX12_of_0) rfl dX12_fadesBy_4 m_X12_of rfl (by decide) qm_X12_295 qi_X12_of qe_X12_of (s_istore_n dX12_fadesBy_7 rfl (by decide : 3 < 5) (s_aload_n dX12_fadesBy_8 rfl (s_getf (ci := 12) (j := 21) (C := RX12) (T := TX12) (N := 49) dX12_fadesBy_9 rfl (by decide) (by decide) qf_X12_49 (s_iconst dX12_fadesBy_12 (s_iload_n dX12_fadesBy_13 rfl (s_imul dX12_fadesBy_14 (s_iconst dX12_fadesBy_15 (s_iadd dX12_fadesBy_16 (s_iaload dX12_fadesBy_17 (s_istore dX12_fadesBy_18 (by decide : 4 < 5) (s_aload_n dX12_fadesBy_20 rfl (s_getf (ci := 12) (j := 30) (C := RX12) (T := TX12) (N := 49) dX12_fadesBy_21 rfl (by decide) (by decide) qf_X12_67 (s_iconst dX12_fadesBy_24 (s_iceq (tgt := 132) dX12_fadesBy_25 (by decide) (s_iconst dX12_fadesBy_132 (s_bipush dX12_fadesBy_133 rfl (s_iload dX12_fadesBy_135 (s_min dX12_fadesBy_137 qm_X12_317 qs_Mmin qz_J9 qc_Mmin (s_max dX12_fadesBy_140 qm_X12_319 qs_Mmax qz_J9 qc_Mmax (s_iret dX12_fadesBy_143 rfl)))))) (s_aload_n dX12_fadesBy_28 rfl (s_getf (ci := 12) (j := 15) (C := RX12) (T := TX12) (N := 49) dX12_fadesBy_29 rfl (by decide) (by decide) qf_X12_34 (s_iconst dX12_fadesBy_32 (s_aload_n dX12_fadesBy_33 rfl (s_iload_n dX12_fadesBy_34 rfl (s_iload_n dX12_fadesBy_35 rfl (s_iconst dX12_fadesBy_36 (s_invT (X := xX12_of) (ci := 12) (T := TX12) (N := 49) (K := (fun Q => kX12_of_0 g (d - 1) 0 0 Q)) (fun _ => tX12_of_0) rfl dX12_fadesBy_37 m_X12_of rfl (by decide) qm_X12_295 qi_X12_of qe_X12_of (s_iastore dX12_fadesBy_40 (s_aload_n dX12_fadesBy_41 rfl (s_getf (ci := 12) (j := 15) (C := RX12) (T := TX12) (N := 49) dX12_fadesBy_42 rfl (by decide) (by decide) qf_X12_34 (s_iconst dX12_fadesBy_45 (s_aload_n dX12_fadesBy_46 rfl (s_getf (ci := 12) (j := 28) (C := RX12) (T := TX12) (N := 49) dX12_fadesBy_47 rfl (by decide) (by decide) qf_X12_61 (s_iconst dX12_fadesBy_50 (s_iload_n dX12_fadesBy_51 rfl (s_iadd dX12_fadesBy_52 (s_iaload dX12_fadesBy_53 (s_iconst dX12_fadesBy_54 (s_isub dX12_fadesBy_55 (s_iload_n dX12_fadesBy_56 rfl (s_isub dX12_fadesBy_57 (s_iastore dX12_fadesBy_58 (s_aload_n dX12_fadesBy_59 rfl (s_getf (ci := 12) (j := 15) (C := RX12) (T := TX12) (N := 49) dX12_fadesBy_60 rfl (by decide) (by decide) qf_X12_34 (s_iconst dX12_fadesBy_63 (s_aload_n dX12_fadesBy_64 rfl (s_getf (ci := 12) (j := 21) (C := RX12) (T := TX12) (N := 49) dX12_fadesBy_65 rfl (by decide) (by decide) qf_X12_49 (s_iconst dX12_fadesBy_68 (s_iload_n dX12_fadesBy_69 rfl (s_imul dX12_fadesBy_70 (s_iconst dX12_fadesBy_71 (s_iadd dX12_fadesBy_72 (s_iaload dX12_fadesBy_73 (s_iastore dX12_fadesBy_74 (s_aload_n dX12_fadesBy_75 rfl (s_getf (ci := 12) (j := 15) (C := RX12) (T := TX12) (N := 49) dX12_fadesBy_76 rfl (by decide) (by decide) qf_X12_34 (s_iconst dX12_fadesBy_79 (s_aload_n dX12_fadesBy_80 rfl (s_getf (ci := 12) (j := 21) (C := RX12) (T := TX12) (N := 49) dX12_fadesBy_81 rfl (by decide) (by decide) qf_X12_49 (s_iconst dX12_fadesBy_84 (s_iload_n dX12_fadesBy_85 rfl (s_imul dX12_fadesBy_86 (s_iconst dX12_fadesBy_87 (s_iadd dX12_fadesBy_88 (s_iaload dX12_fadesBy_89 (s_iastore dX12_fadesBy_90 (s_aload_n dX12_fadesBy_91 rfl (s_getf (ci := 12) (j := 15) (C := RX12) (T := TX12) (N := 49) dX12_fadesBy_92 rfl (by decide) (by decide) qf_X12_34 (s_iconst dX12_fadesBy_95 (s_iload_n dX12_fadesBy_96 rfl (s_aload_n dX12_fadesBy_97 rfl (s_getf (ci := 12) (j := 20) (C := RX12) (T := TX12) (N := 49) dX12_fadesBy_98 rfl (by decide) (by decide) qf_X12_46 (s_iconst dX12_fadesBy_101 (s_iaload dX12_fadesBy_102 (s_idiv dX12_fadesBy_103 (s_iastore dX12_fadesBy_104 (s_aload_n dX12_fadesBy_105 rfl (s_getf (ci := 12) (j := 15) (C := RX12) (T := TX12) (N := 49) dX12_fadesBy_106 rfl (by decide) (by decide) qf_X12_34 (s_iconst dX12_fadesBy_109 (s_aload_n dX12_fadesBy_110 rfl (s_getf (ci := 12) (j := 28) (C := RX12) (T := TX12) (N := 49) dX12_fadesBy_111 rfl (by decide) (by decide) qf_X12_61 (s_sipush dX12_fadesBy_114 rfl (s_iaload dX12_fadesBy_117 (s_bipush dX12_fadesBy_118 rfl (s_irem dX12_fadesBy_120 (s_iastore dX12_fadesBy_121 (s_aload_n dX12_fadesBy_122 rfl (s_aload_n dX12_fadesBy_123 rfl (s_getf (ci := 12) (j := 30) (C := RX12) (T := TX12) (N := 49) dX12_fadesBy_124 rfl (by decide) (by decide) qf_X12_67 (s_invB (w' := (g, d, ck, sk, xX12_fadesBy, Q)) (ci := 12) (ck := 0) (sk := 0) (T := TX12) (N := 49) dX12_fadesBy_127 m_X12_worthOf rfl (by decide) qm_X12_314 qi_X12_worthOf qe_X12_worthOf rfl (s_istore dX12_fadesBy_130 (by decide : 4 < 5) (s_iconst dX12_fadesBy_132 (s_bipush dX12_fadesBy_133 rfl (s_iload dX12_fadesBy_135 (s_min dX12_fadesBy_137 qm_X12_317 qs_Mmin qz_J9 qc_Mmin (s_max dX12_fadesBy_140 qm_X12_319 qs_Mmax qz_J9 qc_Mmax (s_iret dX12_fadesBy_143 rfl))))))))))))))))))))))))))))))))))))))))))))))))))))))))))))))))))))))))))))))))))))))))))))))))
theorem dX12_worthOf_0 : decode cX12_worthOf 0 = .ok (.sipush 140, 3) := by decide +kernel
theorem dX12_worthOf_3 : decode cX12_worthOf 3 = .ok (.iload_n 1, 1) := by decide +kernel
theorem dX12_worthOf_4 : decode cX12_worthOf 4 = .ok (.imul, 1) := by decide +kernel
theorem dX12_worthOf_5 : decode cX12_worthOf 5 = .ok (.istore_n 2, 1) := by decide +kernel
theorem dX12_worthOf_6 : decode cX12_worthOf 6 = .ok (.iload_n 2, 1) := by decide +kernel
theorem dX12_worthOf_7 : decode cX12_worthOf 7 = .ok (.sipush 140, 3) := by decide +kernel
theorem dX12_worthOf_10 : decode cX12_worthOf 10 = .ok (.iload_n 1, 1) := by decide +kernel
theorem dX12_worthOf_11 : decode cX12_worthOf 11 = .ok (.imul, 1) := by decide +kernel
theorem dX12_worthOf_12 : decode cX12_worthOf 12 = .ok (.aload_n 0, 1) := by decide +kernel
theorem dX12_worthOf_13 : decode cX12_worthOf 13 = .ok (.getfield 22, 3) := by decide +kernel
theorem dX12_worthOf_16 : decode cX12_worthOf 16 = .ok (.iload_n 1, 1) := by decide +kernel
theorem dX12_worthOf_17 : decode cX12_worthOf 17 = .ok (.iaload, 1) := by decide +kernel
theorem dX12_worthOf_18 : decode cX12_worthOf 18 = .ok (.iadd, 1) := by decide +kernel
theorem dX12_worthOf_19 : decode cX12_worthOf 19 = .ok (.if_icmp .ge 62, 3) := by decide +kernel
theorem dX12_worthOf_22 : decode cX12_worthOf 22 = .ok (.aload_n 0, 1) := by decide +kernel
theorem dX12_worthOf_23 : decode cX12_worthOf 23 = .ok (.getfield 25, 3) := by decide +kernel
theorem dX12_worthOf_26 : decode cX12_worthOf 26 = .ok (.iload_n 2, 1) := by decide +kernel
theorem dX12_worthOf_27 : decode cX12_worthOf 27 = .ok (.iaload, 1) := by decide +kernel
theorem dX12_worthOf_28 : decode cX12_worthOf 28 = .ok (.aload_n 0, 1) := by decide +kernel
theorem dX12_worthOf_29 : decode cX12_worthOf 29 = .ok (.getfield 28, 3) := by decide +kernel
theorem dX12_worthOf_32 : decode cX12_worthOf 32 = .ok (.iload_n 2, 1) := by decide +kernel
theorem dX12_worthOf_33 : decode cX12_worthOf 33 = .ok (.iaload, 1) := by decide +kernel
theorem dX12_worthOf_34 : decode cX12_worthOf 34 = .ok (.if_icmp .eq 23, 3) := by decide +kernel
theorem dX12_worthOf_37 : decode cX12_worthOf 37 = .ok (.aload_n 0, 1) := by decide +kernel
theorem dX12_worthOf_38 : decode cX12_worthOf 38 = .ok (.iload_n 1, 1) := by decide +kernel
theorem dX12_worthOf_39 : decode cX12_worthOf 39 = .ok (.aload_n 0, 1) := by decide +kernel
theorem dX12_worthOf_40 : decode cX12_worthOf 40 = .ok (.getfield 25, 3) := by decide +kernel
theorem dX12_worthOf_43 : decode cX12_worthOf 43 = .ok (.iload_n 2, 1) := by decide +kernel
theorem dX12_worthOf_44 : decode cX12_worthOf 44 = .ok (.iaload, 1) := by decide +kernel
theorem dX12_worthOf_45 : decode cX12_worthOf 45 = .ok (.aload_n 0, 1) := by decide +kernel
theorem dX12_worthOf_46 : decode cX12_worthOf 46 = .ok (.getfield 28, 3) := by decide +kernel
theorem dX12_worthOf_49 : decode cX12_worthOf 49 = .ok (.iload_n 2, 1) := by decide +kernel
theorem dX12_worthOf_50 : decode cX12_worthOf 50 = .ok (.iaload, 1) := by decide +kernel
theorem dX12_worthOf_51 : decode cX12_worthOf 51 = .ok (.invokevirtual 220, 3) := by decide +kernel
theorem dX12_worthOf_54 : decode cX12_worthOf 54 = .ok (.ifCond .eq 21, 3) := by decide +kernel
theorem dX12_worthOf_57 : decode cX12_worthOf 57 = .ok (.aload_n 0, 1) := by decide +kernel
theorem dX12_worthOf_58 : decode cX12_worthOf 58 = .ok (.iload_n 1, 1) := by decide +kernel
theorem dX12_worthOf_59 : decode cX12_worthOf 59 = .ok (.aload_n 0, 1) := by decide +kernel
theorem dX12_worthOf_60 : decode cX12_worthOf 60 = .ok (.getfield 28, 3) := by decide +kernel
theorem dX12_worthOf_63 : decode cX12_worthOf 63 = .ok (.iload_n 2, 1) := by decide +kernel
theorem dX12_worthOf_64 : decode cX12_worthOf 64 = .ok (.iaload, 1) := by decide +kernel
theorem dX12_worthOf_65 : decode cX12_worthOf 65 = .ok (.aload_n 0, 1) := by decide +kernel
theorem dX12_worthOf_66 : decode cX12_worthOf 66 = .ok (.getfield 31, 3) := by decide +kernel
theorem dX12_worthOf_69 : decode cX12_worthOf 69 = .ok (.iload_n 2, 1) := by decide +kernel
theorem dX12_worthOf_70 : decode cX12_worthOf 70 = .ok (.iaload, 1) := by decide +kernel
theorem dX12_worthOf_71 : decode cX12_worthOf 71 = .ok (.invokevirtual 220, 3) := by decide +kernel
theorem dX12_worthOf_74 : decode cX12_worthOf 74 = .ok (.ireturn, 1) := by decide +kernel
theorem dX12_worthOf_75 : decode cX12_worthOf 75 = .ok (.iinc 2 1, 3) := by decide +kernel
theorem dX12_worthOf_78 : decode cX12_worthOf 78 = .ok (.goto (-72), 3) := by decide +kernel
theorem dX12_worthOf_81 : decode cX12_worthOf 81 = .ok (.iconst 0, 1) := by decide +kernel
theorem dX12_worthOf_82 : decode cX12_worthOf 82 = .ok (.ireturn, 1) := by decide +kernel
def kX12_worthOf_0 (g : sk_G) (d ck sk : Nat) (Q : sk_P) : sk_K := o_i (140) (o_iload 1 (o_imul (o_istore 2 (sk_B (g, d, ck, sk, xX12_worthOf, Q) 6))))
theorem tX12_worthOf_0 {g : sk_G} {d ck sk : Nat} {Q : sk_P} : sk_S (g, d, ck, sk, xX12_worthOf, Q) 0 (kX12_worthOf_0 g d ck sk Q) := s_sipush dX12_worthOf_0 rfl (s_iload_n dX12_worthOf_3 rfl (s_imul dX12_worthOf_4 (s_istore_n dX12_worthOf_5 rfl (by decide : 2 < 3) (sk_id))))
set_option maxRecDepth 20000 in
def kX12_worthOf_6 (g : sk_G) (d ck sk : Nat) (Q : sk_P) : sk_K := o_iload 2 (o_i (140) (o_iload 1 (o_imul (o_aload 0 (o_getf 12 9 (o_iload 1 (o_iaload (o_iadd (o_icge (o_i (0) (o_iret (g, d, ck, sk, xX12_worthOf, Q))) (o_aload 0 (o_getf 12 10 (o_iload 2 (o_iaload (o_aload 0 (o_getf 12 11 (o_iload 2 (o_iaload (o_iceq (sk_B (g, d, ck, sk, xX12_worthOf, Q) 57) (o_aload 0 (o_iload 1 (o_aload 0 (o_getf 12 10 (o_iload 2 (o_iaload (o_aload 0 (o_getf 12 11 (o_iload 2 (o_iaload (o_invB (g, d, ck, sk, xX12_worthOf, Q) xX12_workOut 3 12 0 0 (o_ifeq (o_iinc 2 (1) (sk_B (g, d, ck, sk, xX12_worthOf, Q) 6)) (sk_B (g, d, ck, sk, xX12_worthOf, Q) 57)))))))))))))))))))))))))))))))
set_option maxRecDepth 20000 in
theorem tX12_worthOf_6 {g : sk_G} {d ck sk : Nat} {Q : sk_P} : sk_S (g, d, ck, sk, xX12_worthOf, Q) 6 (kX12_worthOf_6 g d ck sk Q) := s_iload_n dX12_worthOf_6 rfl (s_sipush dX12_worthOf_7 rfl (s_iload_n dX12_worthOf_10 rfl (s_imul dX12_worthOf_11 (s_aload_n dX12_worthOf_12 rfl (s_getf (ci := 12) (j := 9) (C := RX12) (T := TX12) (N := 49) dX12_worthOf_13 rfl (by decide) (by decide) qf_X12_22 (s_iload_n dX12_worthOf_16 rfl (s_iaload dX12_worthOf_17 (s_iadd dX12_worthOf_18 (s_icge (tgt := 81) dX12_worthOf_19 (by decide) (s_iconst dX12_worthOf_81 (s_iret dX12_worthOf_82 rfl)) (s_aload_n dX12_worthOf_22 rfl (s_getf (ci := 12) (j := 10) (C := RX12) (T := TX12) (N := 49) dX12_worthOf_23 rfl (by decide) (by decide) qf_X12_25 (s_iload_n dX12_worthOf_26 rfl (s_iaload dX12_worthOf_27 (s_aload_n dX12_worthOf_28 rfl (s_getf (ci := 12) (j := 11) (C := RX12) (T := TX12) (N := 49) dX12_worthOf_29 rfl (by decide) (by decide) qf_X12_28 (s_iload_n dX12_worthOf_32 rfl (s_iaload dX12_worthOf_33 (s_iceq (tgt := 57) dX12_worthOf_34 (by decide) (sk_id) (s_aload_n dX12_worthOf_37 rfl (s_iload_n dX12_worthOf_38 rfl (s_aload_n dX12_worthOf_39 rfl (s_getf (ci := 12) (j := 10) (C := RX12) (T := TX12) (N := 49) dX12_worthOf_40 rfl (by decide) (by decide) qf_X12_25 (s_iload_n dX12_worthOf_43 rfl (s_iaload dX12_worthOf_44 (s_aload_n dX12_worthOf_45 rfl (s_getf (ci := 12) (j := 11) (C := RX12) (T := TX12) (N := 49) dX12_worthOf_46 rfl (by decide) (by decide) qf_X12_28 (s_iload_n dX12_worthOf_49 rfl (s_iaload dX12_worthOf_50 (s_invB (w' := (g, d, ck, sk, xX12_worthOf, Q)) (ci := 12) (ck := 0) (sk := 0) (T := TX12) (N := 49) dX12_worthOf_51 m_X12_workOut rfl (by decide) qm_X12_220 qi_X12_workOut qe_X12_workOut rfl (s_ifeq (tgt := 75) dX12_worthOf_54 (by decide) (s_iinc dX12_worthOf_75 (by decide : 2 < 3) (s_goto (tgt := 6) dX12_worthOf_78 (by decide) (sk_id))) (sk_id)))))))))))))))))))))))))))))))
set_option maxRecDepth 20000 in
def kX12_worthOf_57 (g : sk_G) (d ck sk : Nat) (Q : sk_P) : sk_K := o_aload 0 (o_iload 1 (o_aload 0 (o_getf 12 11 (o_iload 2 (o_iaload (o_aload 0 (o_getf 12 12 (o_iload 2 (o_iaload (o_invB (g, d, ck, sk, xX12_worthOf, Q) xX12_workOut 3 12 0 0 (o_iret (g, d, ck, sk, xX12_worthOf, Q))))))))))))
set_option maxRecDepth 20000 in
theorem tX12_worthOf_57 {g : sk_G} {d ck sk : Nat} {Q : sk_P} : sk_S (g, d, ck, sk, xX12_worthOf, Q) 57 (kX12_worthOf_57 g d ck sk Q) := s_aload_n dX12_worthOf_57 rfl (s_iload_n dX12_worthOf_58 rfl (s_aload_n dX12_worthOf_59 rfl (s_getf (ci := 12) (j := 11) (C := RX12) (T := TX12) (N := 49) dX12_worthOf_60 rfl (by decide) (by decide) qf_X12_28 (s_iload_n dX12_worthOf_63 rfl (s_iaload dX12_worthOf_64 (s_aload_n dX12_worthOf_65 rfl (s_getf (ci := 12) (j := 12) (C := RX12) (T := TX12) (N := 49) dX12_worthOf_66 rfl (by decide) (by decide) qf_X12_31 (s_iload_n dX12_worthOf_69 rfl (s_iaload dX12_worthOf_70 (s_invB (w' := (g, d, ck, sk, xX12_worthOf, Q)) (ci := 12) (ck := 0) (sk := 0) (T := TX12) (N := 49) dX12_worthOf_71 m_X12_workOut rfl (by decide) qm_X12_220 qi_X12_workOut qe_X12_workOut rfl (s_iret dX12_worthOf_74 rfl)))))))))))
theorem dX12_workOut_0 : decode cX12_workOut 0 = .ok (.iconst 0, 1) := by decide +kernel
theorem dX12_workOut_1 : decode cX12_workOut 1 = .ok (.istore 4, 2) := by decide +kernel
theorem dX12_workOut_3 : decode cX12_workOut 3 = .ok (.sipush 520, 3) := by decide +kernel
theorem dX12_workOut_6 : decode cX12_workOut 6 = .ok (.iload_n 1, 1) := by decide +kernel
theorem dX12_workOut_7 : decode cX12_workOut 7 = .ok (.imul, 1) := by decide +kernel
theorem dX12_workOut_8 : decode cX12_workOut 8 = .ok (.iload_n 2, 1) := by decide +kernel
theorem dX12_workOut_9 : decode cX12_workOut 9 = .ok (.iadd, 1) := by decide +kernel
theorem dX12_workOut_10 : decode cX12_workOut 10 = .ok (.istore 5, 2) := by decide +kernel
theorem dX12_workOut_12 : decode cX12_workOut 12 = .ok (.iload 5, 2) := by decide +kernel
theorem dX12_workOut_14 : decode cX12_workOut 14 = .ok (.sipush 520, 3) := by decide +kernel
theorem dX12_workOut_17 : decode cX12_workOut 17 = .ok (.iload_n 1, 1) := by decide +kernel
theorem dX12_workOut_18 : decode cX12_workOut 18 = .ok (.imul, 1) := by decide +kernel
theorem dX12_workOut_19 : decode cX12_workOut 19 = .ok (.iload_n 3, 1) := by decide +kernel
theorem dX12_workOut_20 : decode cX12_workOut 20 = .ok (.iadd, 1) := by decide +kernel
theorem dX12_workOut_21 : decode cX12_workOut 21 = .ok (.if_icmp .ge 150, 3) := by decide +kernel
theorem dX12_workOut_24 : decode cX12_workOut 24 = .ok (.aload_n 0, 1) := by decide +kernel
theorem dX12_workOut_25 : decode cX12_workOut 25 = .ok (.getfield 13, 3) := by decide +kernel
theorem dX12_workOut_28 : decode cX12_workOut 28 = .ok (.iload 5, 2) := by decide +kernel
theorem dX12_workOut_30 : decode cX12_workOut 30 = .ok (.iaload, 1) := by decide +kernel
theorem dX12_workOut_31 : decode cX12_workOut 31 = .ok (.ifCond .eq 14, 3) := by decide +kernel
theorem dX12_workOut_34 : decode cX12_workOut 34 = .ok (.aload_n 0, 1) := by decide +kernel
theorem dX12_workOut_35 : decode cX12_workOut 35 = .ok (.getfield 13, 3) := by decide +kernel
theorem dX12_workOut_38 : decode cX12_workOut 38 = .ok (.iload 5, 2) := by decide +kernel
theorem dX12_workOut_40 : decode cX12_workOut 40 = .ok (.iaload, 1) := by decide +kernel
theorem dX12_workOut_41 : decode cX12_workOut 41 = .ok (.iconst 1, 1) := by decide +kernel
theorem dX12_workOut_42 : decode cX12_workOut 42 = .ok (.if_icmp .ne 48, 3) := by decide +kernel
theorem dX12_workOut_45 : decode cX12_workOut 45 = .ok (.aload_n 0, 1) := by decide +kernel
theorem dX12_workOut_46 : decode cX12_workOut 46 = .ok (.getfield 37, 3) := by decide +kernel
theorem dX12_workOut_49 : decode cX12_workOut 49 = .ok (.iload 4, 2) := by decide +kernel
theorem dX12_workOut_51 : decode cX12_workOut 51 = .ok (.aload_n 0, 1) := by decide +kernel
theorem dX12_workOut_52 : decode cX12_workOut 52 = .ok (.getfield 13, 3) := by decide +kernel
theorem dX12_workOut_55 : decode cX12_workOut 55 = .ok (.iload 5, 2) := by decide +kernel
theorem dX12_workOut_57 : decode cX12_workOut 57 = .ok (.iaload, 1) := by decide +kernel
theorem dX12_workOut_58 : decode cX12_workOut 58 = .ok (.ifCond .ne 13, 3) := by decide +kernel
theorem dX12_workOut_61 : decode cX12_workOut 61 = .ok (.aload_n 0, 1) := by decide +kernel
theorem dX12_workOut_62 : decode cX12_workOut 62 = .ok (.getfield 16, 3) := by decide +kernel
theorem dX12_workOut_65 : decode cX12_workOut 65 = .ok (.iload 5, 2) := by decide +kernel
theorem dX12_workOut_67 : decode cX12_workOut 67 = .ok (.iaload, 1) := by decide +kernel
theorem dX12_workOut_68 : decode cX12_workOut 68 = .ok (.goto 15, 3) := by decide +kernel
theorem dX12_workOut_71 : decode cX12_workOut 71 = .ok (.aload_n 0, 1) := by decide +kernel
theorem dX12_workOut_72 : decode cX12_workOut 72 = .ok (.getfield 34, 3) := by decide +kernel
theorem dX12_workOut_75 : decode cX12_workOut 75 = .ok (.aload_n 0, 1) := by decide +kernel
theorem dX12_workOut_76 : decode cX12_workOut 76 = .ok (.getfield 16, 3) := by decide +kernel
theorem dX12_workOut_79 : decode cX12_workOut 79 = .ok (.iload 5, 2) := by decide +kernel
theorem dX12_workOut_81 : decode cX12_workOut 81 = .ok (.iaload, 1) := by decide +kernel
theorem dX12_workOut_82 : decode cX12_workOut 82 = .ok (.iaload, 1) := by decide +kernel
theorem dX12_workOut_83 : decode cX12_workOut 83 = .ok (.iastore, 1) := by decide +kernel
theorem dX12_workOut_84 : decode cX12_workOut 84 = .ok (.iinc 4 1, 3) := by decide +kernel
theorem dX12_workOut_87 : decode cX12_workOut 87 = .ok (.goto 78, 3) := by decide +kernel
theorem dX12_workOut_90 : decode cX12_workOut 90 = .ok (.aload_n 0, 1) := by decide +kernel
theorem dX12_workOut_91 : decode cX12_workOut 91 = .ok (.getfield 13, 3) := by decide +kernel
theorem dX12_workOut_94 : decode cX12_workOut 94 = .ok (.iload 5, 2) := by decide +kernel
theorem dX12_workOut_96 : decode cX12_workOut 96 = .ok (.iaload, 1) := by decide +kernel
theorem dX12_workOut_97 : decode cX12_workOut 97 = .ok (.bipush 9, 2) := by decide +kernel
theorem dX12_workOut_99 : decode cX12_workOut 99 = .ok (.if_icmp .ne 26, 3) := by decide +kernel
theorem dX12_workOut_102 : decode cX12_workOut 102 = .ok (.aload_n 0, 1) := by decide +kernel
theorem dX12_workOut_103 : decode cX12_workOut 103 = .ok (.getfield 37, 3) := by decide +kernel
theorem dX12_workOut_106 : decode cX12_workOut 106 = .ok (.iload 4, 2) := by decide +kernel
theorem dX12_workOut_108 : decode cX12_workOut 108 = .ok (.iconst 1, 1) := by decide +kernel
theorem dX12_workOut_109 : decode cX12_workOut 109 = .ok (.isub, 1) := by decide +kernel
theorem dX12_workOut_110 : decode cX12_workOut 110 = .ok (.iconst 1, 1) := by decide +kernel
theorem dX12_workOut_111 : decode cX12_workOut 111 = .ok (.aload_n 0, 1) := by decide +kernel
theorem dX12_workOut_112 : decode cX12_workOut 112 = .ok (.getfield 37, 3) := by decide +kernel
theorem dX12_workOut_115 : decode cX12_workOut 115 = .ok (.iload 4, 2) := by decide +kernel
theorem dX12_workOut_117 : decode cX12_workOut 117 = .ok (.iconst 1, 1) := by decide +kernel
theorem dX12_workOut_118 : decode cX12_workOut 118 = .ok (.isub, 1) := by decide +kernel
theorem dX12_workOut_119 : decode cX12_workOut 119 = .ok (.iaload, 1) := by decide +kernel
theorem dX12_workOut_120 : decode cX12_workOut 120 = .ok (.isub, 1) := by decide +kernel
theorem dX12_workOut_121 : decode cX12_workOut 121 = .ok (.iastore, 1) := by decide +kernel
theorem dX12_workOut_122 : decode cX12_workOut 122 = .ok (.goto 43, 3) := by decide +kernel
theorem dX12_workOut_125 : decode cX12_workOut 125 = .ok (.iinc 4 (-1), 3) := by decide +kernel
theorem dX12_workOut_128 : decode cX12_workOut 128 = .ok (.aload_n 0, 1) := by decide +kernel
theorem dX12_workOut_129 : decode cX12_workOut 129 = .ok (.getfield 37, 3) := by decide +kernel
theorem dX12_workOut_132 : decode cX12_workOut 132 = .ok (.iload 4, 2) := by decide +kernel
theorem dX12_workOut_134 : decode cX12_workOut 134 = .ok (.iconst 1, 1) := by decide +kernel
theorem dX12_workOut_135 : decode cX12_workOut 135 = .ok (.isub, 1) := by decide +kernel
theorem dX12_workOut_136 : decode cX12_workOut 136 = .ok (.aload_n 0, 1) := by decide +kernel
theorem dX12_workOut_137 : decode cX12_workOut 137 = .ok (.getfield 13, 3) := by decide +kernel
theorem dX12_workOut_140 : decode cX12_workOut 140 = .ok (.iload 5, 2) := by decide +kernel
theorem dX12_workOut_142 : decode cX12_workOut 142 = .ok (.iaload, 1) := by decide +kernel
theorem dX12_workOut_143 : decode cX12_workOut 143 = .ok (.aload_n 0, 1) := by decide +kernel
theorem dX12_workOut_144 : decode cX12_workOut 144 = .ok (.getfield 37, 3) := by decide +kernel
theorem dX12_workOut_147 : decode cX12_workOut 147 = .ok (.iload 4, 2) := by decide +kernel
theorem dX12_workOut_149 : decode cX12_workOut 149 = .ok (.iconst 1, 1) := by decide +kernel
theorem dX12_workOut_150 : decode cX12_workOut 150 = .ok (.isub, 1) := by decide +kernel
theorem dX12_workOut_151 : decode cX12_workOut 151 = .ok (.iaload, 1) := by decide +kernel
theorem dX12_workOut_152 : decode cX12_workOut 152 = .ok (.i2l, 1) := by decide +kernel
theorem dX12_workOut_153 : decode cX12_workOut 153 = .ok (.aload_n 0, 1) := by decide +kernel
theorem dX12_workOut_154 : decode cX12_workOut 154 = .ok (.getfield 37, 3) := by decide +kernel
theorem dX12_workOut_157 : decode cX12_workOut 157 = .ok (.iload 4, 2) := by decide +kernel
theorem dX12_workOut_159 : decode cX12_workOut 159 = .ok (.iaload, 1) := by decide +kernel
theorem dX12_workOut_160 : decode cX12_workOut 160 = .ok (.i2l, 1) := by decide +kernel
theorem dX12_workOut_161 : decode cX12_workOut 161 = .ok (.invokestatic 216, 3) := by decide +kernel
theorem dX12_workOut_164 : decode cX12_workOut 164 = .ok (.iastore, 1) := by decide +kernel
theorem dX12_workOut_165 : decode cX12_workOut 165 = .ok (.iinc 5 1, 3) := by decide +kernel
theorem dX12_workOut_168 : decode cX12_workOut 168 = .ok (.goto (-156), 3) := by decide +kernel
theorem dX12_workOut_171 : decode cX12_workOut 171 = .ok (.aload_n 0, 1) := by decide +kernel
theorem dX12_workOut_172 : decode cX12_workOut 172 = .ok (.getfield 37, 3) := by decide +kernel
theorem dX12_workOut_175 : decode cX12_workOut 175 = .ok (.iconst 0, 1) := by decide +kernel
theorem dX12_workOut_176 : decode cX12_workOut 176 = .ok (.iaload, 1) := by decide +kernel
theorem dX12_workOut_177 : decode cX12_workOut 177 = .ok (.ireturn, 1) := by decide +kernel
def kX12_workOut_0 (g : sk_G) (d ck sk : Nat) (Q : sk_P) : sk_K := o_i (0) (o_istore 4 (o_i (520) (o_iload 1 (o_imul (o_iload 2 (o_iadd (o_istore 5 (sk_B (g, d, ck, sk, xX12_workOut, Q) 12))))))))
theorem tX12_workOut_0 {g : sk_G} {d ck sk : Nat} {Q : sk_P} : sk_S (g, d, ck, sk, xX12_workOut, Q) 0 (kX12_workOut_0 g d ck sk Q) := s_iconst dX12_workOut_0 (s_istore dX12_workOut_1 (by decide : 4 < 6) (s_sipush dX12_workOut_3 rfl (s_iload_n dX12_workOut_6 rfl (s_imul dX12_workOut_7 (s_iload_n dX12_workOut_8 rfl (s_iadd dX12_workOut_9 (s_istore dX12_workOut_10 (by decide : 5 < 6) (sk_id))))))))
set_option maxRecDepth 20000 in
def kX12_workOut_12 (g : sk_G) (d ck sk : Nat) (Q : sk_P) : sk_K := o_iload 5 (o_i (520) (o_iload 1 (o_imul (o_iload 3 (o_iadd (o_icge (o_aload 0 (o_getf 12 16 (o_i (0) (o_iaload (o_iret (g, d, ck, sk, xX12_workOut, Q)))))) (o_aload 0 (o_getf 12 6 (o_iload 5 (o_iaload (o_ifeq (sk_B (g, d, ck, sk, xX12_workOut, Q) 45) (o_aload 0 (o_getf 12 6 (o_iload 5 (o_iaload (o_i (1) (o_icne (o_aload 0 (o_getf 12 6 (o_iload 5 (o_iaload (o_i (9) (o_icne (o_iinc 4 (-1) (o_aload 0 (o_getf 12 16 (o_iload 4 (o_i (1) (o_isub (o_aload 0 (o_getf 12 6 (o_iload 5 (o_iaload (o_aload 0 (o_getf 12 16 (o_iload 4 (o_i (1) (o_isub (o_iaload (o_i2l (o_aload 0 (o_getf 12 16 (o_iload 4 (o_iaload (o_i2l (o_stcB (g, d, ck, sk, xX12_workOut, Q) xX12_worked 3 0 0 (o_iastore (o_iinc 5 (1) (sk_B (g, d, ck, sk, xX12_workOut, Q) 12)))))))))))))))))))))))))) (o_aload 0 (o_getf 12 16 (o_iload 4 (o_i (1) (o_isub (o_i (1) (o_aload 0 (o_getf 12 16 (o_iload 4 (o_i (1) (o_isub (o_iaload (o_isub (o_iastore (o_iinc 5 (1) (sk_B (g, d, ck, sk, xX12_workOut, Q) 12)))))))))))))))))))))) (sk_B (g, d, ck, sk, xX12_workOut, Q) 45))))))))))))))))))
set_option maxRecDepth 20000 in
theorem tX12_workOut_12 {g : sk_G} {d ck sk : Nat} {Q : sk_P} : sk_S (g, d, ck, sk, xX12_workOut, Q) 12 (kX12_workOut_12 g d ck sk Q) := s_iload dX12_workOut_12 (s_sipush dX12_workOut_14 rfl (s_iload_n dX12_workOut_17 rfl (s_imul dX12_workOut_18 (s_iload_n dX12_workOut_19 rfl (s_iadd dX12_workOut_20 (s_icge (tgt := 171) dX12_workOut_21 (by decide) (s_aload_n dX12_workOut_171 rfl (s_getf (ci := 12) (j := 16) (C := RX12) (T := TX12) (N := 49) dX12_workOut_172 rfl (by decide) (by decide) qf_X12_37 (s_iconst dX12_workOut_175 (s_iaload dX12_workOut_176 (s_iret dX12_workOut_177 rfl))))) (s_aload_n dX12_workOut_24 rfl (s_getf (ci := 12) (j := 6) (C := RX12) (T := TX12) (N := 49) dX12_workOut_25 rfl (by decide) (by decide) qf_X12_13 (s_iload dX12_workOut_28 (s_iaload dX12_workOut_30 (s_ifeq (tgt := 45) dX12_workOut_31 (by decide) (sk_id) (s_aload_n dX12_workOut_34 rfl (s_getf (ci := 12) (j := 6) (C := RX12) (T := TX12) (N := 49) dX12_workOut_35 rfl (by decide) (by decide) qf_X12_13 (s_iload dX12_workOut_38 (s_iaload dX12_workOut_40 (s_iconst dX12_workOut_41 (s_icne (tgt := 90) dX12_workOut_42 (by decide) (s_aload_n dX12_workOut_90 rfl (s_getf (ci := 12) (j := 6) (C := RX12) (T := TX12) (N := 49) dX12_workOut_91 rfl (by decide) (by decide) qf_X12_13 (s_iload dX12_workOut_94 (s_iaload dX12_workOut_96 (s_bipush dX12_workOut_97 rfl (s_icne (tgt := 125) dX12_workOut_99 (by decide) (s_iinc dX12_workOut_125 (by decide : 4 < 6) (s_aload_n dX12_workOut_128 rfl (s_getf (ci := 12) (j := 16) (C := RX12) (T := TX12) (N := 49) dX12_workOut_129 rfl (by decide) (by decide) qf_X12_37 (s_iload dX12_workOut_132 (s_iconst dX12_workOut_134 (s_isub dX12_workOut_135 (s_aload_n dX12_workOut_136 rfl (s_getf (ci := 12) (j := 6) (C := RX12) (T := TX12) (N := 49) dX12_workOut_137 rfl (by decide) (by decide) qf_X12_13 (s_iload dX12_workOut_140 (s_iaload dX12_workOut_142 (s_aload_n dX12_workOut_143 rfl (s_getf (ci := 12) (j := 16) (C := RX12) (T := TX12) (N := 49) dX12_workOut_144 rfl (by decide) (by decide) qf_X12_37 (s_iload dX12_workOut_147 (s_iconst dX12_workOut_149 (s_isub dX12_workOut_150 (s_iaload dX12_workOut_151 (s_i2l dX12_workOut_152 (s_aload_n dX12_workOut_153 rfl (s_getf (ci := 12) (j := 16) (C := RX12) (T := TX12) (N := 49) dX12_workOut_154 rfl (by decide) (by decide) qf_X12_37 (s_iload dX12_workOut_157 (s_iaload dX12_workOut_159 (s_i2l dX12_workOut_160 (s_stcB (w' := (g, d, ck, sk, xX12_workOut, Q)) (ck := 0) (sk := 0) dX12_workOut_161 m_X12_worked qm_X12_216 qs_X12_worked rfl (s_iastore dX12_workOut_164 (s_iinc dX12_workOut_165 (by decide : 5 < 6) (s_goto (tgt := 12) dX12_workOut_168 (by decide) (sk_id))))))))))))))))))))))))))) (s_aload_n dX12_workOut_102 rfl (s_getf (ci := 12) (j := 16) (C := RX12) (T := TX12) (N := 49) dX12_workOut_103 rfl (by decide) (by decide) qf_X12_37 (s_iload dX12_workOut_106 (s_iconst dX12_workOut_108 (s_isub dX12_workOut_109 (s_iconst dX12_workOut_110 (s_aload_n dX12_workOut_111 rfl (s_getf (ci := 12) (j := 16) (C := RX12) (T := TX12) (N := 49) dX12_workOut_112 rfl (by decide) (by decide) qf_X12_37 (s_iload dX12_workOut_115 (s_iconst dX12_workOut_117 (s_isub dX12_workOut_118 (s_iaload dX12_workOut_119 (s_isub dX12_workOut_120 (s_iastore dX12_workOut_121 (s_goto (tgt := 165) dX12_workOut_122 (by decide) (s_iinc dX12_workOut_165 (by decide : 5 < 6) (s_goto (tgt := 12) dX12_workOut_168 (by decide) (sk_id)))))))))))))))))))))))) (sk_id))))))))))))))))))
set_option maxRecDepth 20000 in
def kX12_workOut_45 (g : sk_G) (d ck sk : Nat) (Q : sk_P) : sk_K := o_aload 0 (o_getf 12 16 (o_iload 4 (o_aload 0 (o_getf 12 6 (o_iload 5 (o_iaload (o_ifne (o_aload 0 (o_getf 12 15 (o_aload 0 (o_getf 12 7 (o_iload 5 (o_iaload (o_iaload (o_iastore (o_iinc 4 (1) (o_iinc 5 (1) (sk_B (g, d, ck, sk, xX12_workOut, Q) 12))))))))))) (o_aload 0 (o_getf 12 7 (o_iload 5 (o_iaload (o_iastore (o_iinc 4 (1) (o_iinc 5 (1) (sk_B (g, d, ck, sk, xX12_workOut, Q) 12)))))))))))))))
set_option maxRecDepth 20000 in
theorem tX12_workOut_45 {g : sk_G} {d ck sk : Nat} {Q : sk_P} : sk_S (g, d, ck, sk, xX12_workOut, Q) 45 (kX12_workOut_45 g d ck sk Q) := s_aload_n dX12_workOut_45 rfl (s_getf (ci := 12) (j := 16) (C := RX12) (T := TX12) (N := 49) dX12_workOut_46 rfl (by decide) (by decide) qf_X12_37 (s_iload dX12_workOut_49 (s_aload_n dX12_workOut_51 rfl (s_getf (ci := 12) (j := 6) (C := RX12) (T := TX12) (N := 49) dX12_workOut_52 rfl (by decide) (by decide) qf_X12_13 (s_iload dX12_workOut_55 (s_iaload dX12_workOut_57 (s_ifne (tgt := 71) dX12_workOut_58 (by decide) (s_aload_n dX12_workOut_71 rfl (s_getf (ci := 12) (j := 15) (C := RX12) (T := TX12) (N := 49) dX12_workOut_72 rfl (by decide) (by decide) qf_X12_34 (s_aload_n dX12_workOut_75 rfl (s_getf (ci := 12) (j := 7) (C := RX12) (T := TX12) (N := 49) dX12_workOut_76 rfl (by decide) (by decide) qf_X12_16 (s_iload dX12_workOut_79 (s_iaload dX12_workOut_81 (s_iaload dX12_workOut_82 (s_iastore dX12_workOut_83 (s_iinc dX12_workOut_84 (by decide : 4 < 6) (s_goto (tgt := 165) dX12_workOut_87 (by decide) (s_iinc dX12_workOut_165 (by decide : 5 < 6) (s_goto (tgt := 12) dX12_workOut_168 (by decide) (sk_id))))))))))))) (s_aload_n dX12_workOut_61 rfl (s_getf (ci := 12) (j := 7) (C := RX12) (T := TX12) (N := 49) dX12_workOut_62 rfl (by decide) (by decide) qf_X12_16 (s_iload dX12_workOut_65 (s_iaload dX12_workOut_67 (s_goto (tgt := 83) dX12_workOut_68 (by decide) (s_iastore dX12_workOut_83 (s_iinc dX12_workOut_84 (by decide : 4 < 6) (s_goto (tgt := 165) dX12_workOut_87 (by decide) (s_iinc dX12_workOut_165 (by decide : 5 < 6) (s_goto (tgt := 12) dX12_workOut_168 (by decide) (sk_id))))))))))))))))))
theorem dX12_worked_0 : decode cX12_worked 0 = .ok (.iload_n 0, 1) := by decide +kernel
theorem dX12_worked_1 : decode cX12_worked 1 = .ok (.tableswitch 143 2 10 #[51, 58, 65, 72, 89, 101, 113, 143, 125], 51) := by decide +kernel
theorem dX12_worked_52 : decode cX12_worked 52 = .ok (.lload_n 1, 1) := by decide +kernel
theorem dX12_worked_53 : decode cX12_worked 53 = .ok (.lload_n 3, 1) := by decide +kernel
theorem dX12_worked_54 : decode cX12_worked 54 = .ok (.ladd, 1) := by decide +kernel
theorem dX12_worked_55 : decode cX12_worked 55 = .ok (.invokestatic 212, 3) := by decide +kernel
theorem dX12_worked_58 : decode cX12_worked 58 = .ok (.ireturn, 1) := by decide +kernel
theorem dX12_worked_59 : decode cX12_worked 59 = .ok (.lload_n 1, 1) := by decide +kernel
theorem dX12_worked_60 : decode cX12_worked 60 = .ok (.lload_n 3, 1) := by decide +kernel
theorem dX12_worked_61 : decode cX12_worked 61 = .ok (.lsub, 1) := by decide +kernel
theorem dX12_worked_62 : decode cX12_worked 62 = .ok (.invokestatic 212, 3) := by decide +kernel
theorem dX12_worked_65 : decode cX12_worked 65 = .ok (.ireturn, 1) := by decide +kernel
theorem dX12_worked_66 : decode cX12_worked 66 = .ok (.lload_n 1, 1) := by decide +kernel
theorem dX12_worked_67 : decode cX12_worked 67 = .ok (.lload_n 3, 1) := by decide +kernel
theorem dX12_worked_68 : decode cX12_worked 68 = .ok (.lmul, 1) := by decide +kernel
theorem dX12_worked_69 : decode cX12_worked 69 = .ok (.invokestatic 212, 3) := by decide +kernel
theorem dX12_worked_72 : decode cX12_worked 72 = .ok (.ireturn, 1) := by decide +kernel
theorem dX12_worked_73 : decode cX12_worked 73 = .ok (.lload_n 3, 1) := by decide +kernel
theorem dX12_worked_74 : decode cX12_worked 74 = .ok (.lconst 0, 1) := by decide +kernel
theorem dX12_worked_75 : decode cX12_worked 75 = .ok (.lcmp, 1) := by decide +kernel
theorem dX12_worked_76 : decode cX12_worked 76 = .ok (.ifCond .ne 7, 3) := by decide +kernel
theorem dX12_worked_79 : decode cX12_worked 79 = .ok (.iconst 0, 1) := by decide +kernel
theorem dX12_worked_80 : decode cX12_worked 80 = .ok (.goto 9, 3) := by decide +kernel
theorem dX12_worked_83 : decode cX12_worked 83 = .ok (.lload_n 1, 1) := by decide +kernel
theorem dX12_worked_84 : decode cX12_worked 84 = .ok (.lload_n 3, 1) := by decide +kernel
theorem dX12_worked_85 : decode cX12_worked 85 = .ok (.ldiv, 1) := by decide +kernel
theorem dX12_worked_86 : decode cX12_worked 86 = .ok (.invokestatic 212, 3) := by decide +kernel
theorem dX12_worked_89 : decode cX12_worked 89 = .ok (.ireturn, 1) := by decide +kernel
theorem dX12_worked_90 : decode cX12_worked 90 = .ok (.lload_n 1, 1) := by decide +kernel
theorem dX12_worked_91 : decode cX12_worked 91 = .ok (.lload_n 3, 1) := by decide +kernel
theorem dX12_worked_92 : decode cX12_worked 92 = .ok (.lcmp, 1) := by decide +kernel
theorem dX12_worked_93 : decode cX12_worked 93 = .ok (.ifCond .ne 7, 3) := by decide +kernel
theorem dX12_worked_96 : decode cX12_worked 96 = .ok (.iconst 1, 1) := by decide +kernel
theorem dX12_worked_97 : decode cX12_worked 97 = .ok (.goto 4, 3) := by decide +kernel
theorem dX12_worked_100 : decode cX12_worked 100 = .ok (.iconst 0, 1) := by decide +kernel
theorem dX12_worked_101 : decode cX12_worked 101 = .ok (.ireturn, 1) := by decide +kernel
theorem dX12_worked_102 : decode cX12_worked 102 = .ok (.lload_n 1, 1) := by decide +kernel
theorem dX12_worked_103 : decode cX12_worked 103 = .ok (.lload_n 3, 1) := by decide +kernel
theorem dX12_worked_104 : decode cX12_worked 104 = .ok (.lcmp, 1) := by decide +kernel
theorem dX12_worked_105 : decode cX12_worked 105 = .ok (.ifCond .ge 7, 3) := by decide +kernel
theorem dX12_worked_108 : decode cX12_worked 108 = .ok (.iconst 1, 1) := by decide +kernel
theorem dX12_worked_109 : decode cX12_worked 109 = .ok (.goto 4, 3) := by decide +kernel
theorem dX12_worked_112 : decode cX12_worked 112 = .ok (.iconst 0, 1) := by decide +kernel
theorem dX12_worked_113 : decode cX12_worked 113 = .ok (.ireturn, 1) := by decide +kernel
theorem dX12_worked_114 : decode cX12_worked 114 = .ok (.lload_n 1, 1) := by decide +kernel
theorem dX12_worked_115 : decode cX12_worked 115 = .ok (.lload_n 3, 1) := by decide +kernel
theorem dX12_worked_116 : decode cX12_worked 116 = .ok (.lcmp, 1) := by decide +kernel
theorem dX12_worked_117 : decode cX12_worked 117 = .ok (.ifCond .le 7, 3) := by decide +kernel
theorem dX12_worked_120 : decode cX12_worked 120 = .ok (.iconst 1, 1) := by decide +kernel
theorem dX12_worked_121 : decode cX12_worked 121 = .ok (.goto 4, 3) := by decide +kernel
theorem dX12_worked_124 : decode cX12_worked 124 = .ok (.iconst 0, 1) := by decide +kernel
theorem dX12_worked_125 : decode cX12_worked 125 = .ok (.ireturn, 1) := by decide +kernel
theorem dX12_worked_126 : decode cX12_worked 126 = .ok (.lload_n 1, 1) := by decide +kernel
theorem dX12_worked_127 : decode cX12_worked 127 = .ok (.lconst 0, 1) := by decide +kernel
theorem dX12_worked_128 : decode cX12_worked 128 = .ok (.lcmp, 1) := by decide +kernel
theorem dX12_worked_129 : decode cX12_worked 129 = .ok (.ifCond .eq 13, 3) := by decide +kernel
theorem dX12_worked_132 : decode cX12_worked 132 = .ok (.lload_n 3, 1) := by decide +kernel
theorem dX12_worked_133 : decode cX12_worked 133 = .ok (.lconst 0, 1) := by decide +kernel
theorem dX12_worked_134 : decode cX12_worked 134 = .ok (.lcmp, 1) := by decide +kernel
theorem dX12_worked_135 : decode cX12_worked 135 = .ok (.ifCond .eq 7, 3) := by decide +kernel
theorem dX12_worked_138 : decode cX12_worked 138 = .ok (.iconst 1, 1) := by decide +kernel
theorem dX12_worked_139 : decode cX12_worked 139 = .ok (.goto 4, 3) := by decide +kernel
theorem dX12_worked_142 : decode cX12_worked 142 = .ok (.iconst 0, 1) := by decide +kernel
theorem dX12_worked_143 : decode cX12_worked 143 = .ok (.ireturn, 1) := by decide +kernel
theorem dX12_worked_144 : decode cX12_worked 144 = .ok (.lload_n 1, 1) := by decide +kernel
theorem dX12_worked_145 : decode cX12_worked 145 = .ok (.lconst 0, 1) := by decide +kernel
theorem dX12_worked_146 : decode cX12_worked 146 = .ok (.lcmp, 1) := by decide +kernel
theorem dX12_worked_147 : decode cX12_worked 147 = .ok (.ifCond .ne 9, 3) := by decide +kernel
theorem dX12_worked_150 : decode cX12_worked 150 = .ok (.lload_n 3, 1) := by decide +kernel
theorem dX12_worked_151 : decode cX12_worked 151 = .ok (.lconst 0, 1) := by decide +kernel
theorem dX12_worked_152 : decode cX12_worked 152 = .ok (.lcmp, 1) := by decide +kernel
theorem dX12_worked_153 : decode cX12_worked 153 = .ok (.ifCond .eq 7, 3) := by decide +kernel
theorem dX12_worked_156 : decode cX12_worked 156 = .ok (.iconst 1, 1) := by decide +kernel
theorem dX12_worked_157 : decode cX12_worked 157 = .ok (.goto 4, 3) := by decide +kernel
theorem dX12_worked_160 : decode cX12_worked 160 = .ok (.iconst 0, 1) := by decide +kernel
theorem dX12_worked_161 : decode cX12_worked 161 = .ok (.ireturn, 1) := by decide +kernel
set_option maxRecDepth 20000 in
def kX12_worked_0 (g : sk_G) (d ck sk : Nat) (Q : sk_P) : sk_K := o_iload 0 (o_tsw (2) [o_lload 1 (o_lload 3 (o_ladd (o_stcB (g, d, ck, sk, xX12_worked, Q) xX12_bounded 1 0 0 (o_iret (g, d, ck, sk, xX12_worked, Q))))), o_lload 1 (o_lload 3 (o_lsub (o_stcB (g, d, ck, sk, xX12_worked, Q) xX12_bounded 1 0 0 (o_iret (g, d, ck, sk, xX12_worked, Q))))), o_lload 1 (o_lload 3 (o_lmul (o_stcB (g, d, ck, sk, xX12_worked, Q) xX12_bounded 1 0 0 (o_iret (g, d, ck, sk, xX12_worked, Q))))), o_lload 3 (o_l (0) (o_lcmp (o_ifne (o_lload 1 (o_lload 3 (o_ldiv (o_stcB (g, d, ck, sk, xX12_worked, Q) xX12_bounded 1 0 0 (o_iret (g, d, ck, sk, xX12_worked, Q)))))) (o_i (0) (o_iret (g, d, ck, sk, xX12_worked, Q)))))), o_lload 1 (o_lload 3 (o_lcmp (o_ifne (o_i (0) (o_iret (g, d, ck, sk, xX12_worked, Q))) (o_i (1) (o_iret (g, d, ck, sk, xX12_worked, Q)))))), o_lload 1 (o_lload 3 (o_lcmp (o_ifge (o_i (0) (o_iret (g, d, ck, sk, xX12_worked, Q))) (o_i (1) (o_iret (g, d, ck, sk, xX12_worked, Q)))))), o_lload 1 (o_lload 3 (o_lcmp (o_ifle (o_i (0) (o_iret (g, d, ck, sk, xX12_worked, Q))) (o_i (1) (o_iret (g, d, ck, sk, xX12_worked, Q)))))), o_lload 1 (o_l (0) (o_lcmp (o_ifne (o_i (1) (o_iret (g, d, ck, sk, xX12_worked, Q))) (o_lload 3 (o_l (0) (o_lcmp (o_ifeq (o_i (0) (o_iret (g, d, ck, sk, xX12_worked, Q))) (o_i (1) (o_iret (g, d, ck, sk, xX12_worked, Q)))))))))), o_lload 1 (o_l (0) (o_lcmp (o_ifeq (o_i (0) (o_iret (g, d, ck, sk, xX12_worked, Q))) (o_lload 3 (o_l (0) (o_lcmp (o_ifeq (o_i (0) (o_iret (g, d, ck, sk, xX12_worked, Q))) (o_i (1) (o_iret (g, d, ck, sk, xX12_worked, Q))))))))))] (o_lload 1 (o_l (0) (o_lcmp (o_ifne (o_i (1) (o_iret (g, d, ck, sk, xX12_worked, Q))) (o_lload 3 (o_l (0) (o_lcmp (o_ifeq (o_i (0) (o_iret (g, d, ck, sk, xX12_worked, Q))) (o_i (1) (o_iret (g, d, ck, sk, xX12_worked, Q))))))))))))
set_option maxRecDepth 20000 in
theorem tX12_worked_0 {g : sk_G} {d ck sk : Nat} {Q : sk_P} : sk_S (g, d, ck, sk, xX12_worked, Q) 0 (kX12_worked_0 g d ck sk Q) := s_iload_n dX12_worked_0 rfl (s_tsw (td := 144) (tg := [52, 59, 66, 73, 90, 102, 114, 144, 126]) (n := 9) dX12_worked_1 rfl (by decide) (by decide) (by decide) (s_lload_n dX12_worked_144 rfl (s_lconst dX12_worked_145 rfl (s_lcmp dX12_worked_146 (s_ifne (tgt := 156) dX12_worked_147 (by decide) (s_iconst dX12_worked_156 (s_goto (tgt := 161) dX12_worked_157 (by decide) (s_iret dX12_worked_161 rfl))) (s_lload_n dX12_worked_150 rfl (s_lconst dX12_worked_151 rfl (s_lcmp dX12_worked_152 (s_ifeq (tgt := 160) dX12_worked_153 (by decide) (s_iconst dX12_worked_160 (s_iret dX12_worked_161 rfl)) (s_iconst dX12_worked_156 (s_goto (tgt := 161) dX12_worked_157 (by decide) (s_iret dX12_worked_161 rfl))))))))))) (fun i off h => by
    match i, h with
    | 0, h => cases h; exact ⟨52, rfl, by decide⟩
    | 1, h => cases h; exact ⟨59, rfl, by decide⟩
    | 2, h => cases h; exact ⟨66, rfl, by decide⟩
    | 3, h => cases h; exact ⟨73, rfl, by decide⟩
    | 4, h => cases h; exact ⟨90, rfl, by decide⟩
    | 5, h => cases h; exact ⟨102, rfl, by decide⟩
    | 6, h => cases h; exact ⟨114, rfl, by decide⟩
    | 7, h => cases h; exact ⟨144, rfl, by decide⟩
    | 8, h => cases h; exact ⟨126, rfl, by decide⟩
    | i + 9, h => simp at h) (fun i a t hi ht => by
    match i, hi, ht with
    | 0, hi, ht => cases hi; cases ht; exact s_lload_n dX12_worked_52 rfl (s_lload_n dX12_worked_53 rfl (s_ladd dX12_worked_54 (s_stcB (w' := (g, d, ck, sk, xX12_worked, Q)) (ck := 0) (sk := 0) dX12_worked_55 m_X12_bounded qm_X12_212 qs_X12_bounded rfl (s_iret dX12_worked_58 rfl))))
    | 1, hi, ht => cases hi; cases ht; exact s_lload_n dX12_worked_59 rfl (s_lload_n dX12_worked_60 rfl (s_lsub dX12_worked_61 (s_stcB (w' := (g, d, ck, sk, xX12_worked, Q)) (ck := 0) (sk := 0) dX12_worked_62 m_X12_bounded qm_X12_212 qs_X12_bounded rfl (s_iret dX12_worked_65 rfl))))
    | 2, hi, ht => cases hi; cases ht; exact s_lload_n dX12_worked_66 rfl (s_lload_n dX12_worked_67 rfl (s_lmul dX12_worked_68 (s_stcB (w' := (g, d, ck, sk, xX12_worked, Q)) (ck := 0) (sk := 0) dX12_worked_69 m_X12_bounded qm_X12_212 qs_X12_bounded rfl (s_iret dX12_worked_72 rfl))))
    | 3, hi, ht => cases hi; cases ht; exact s_lload_n dX12_worked_73 rfl (s_lconst dX12_worked_74 rfl (s_lcmp dX12_worked_75 (s_ifne (tgt := 83) dX12_worked_76 (by decide) (s_lload_n dX12_worked_83 rfl (s_lload_n dX12_worked_84 rfl (s_ldiv dX12_worked_85 (s_stcB (w' := (g, d, ck, sk, xX12_worked, Q)) (ck := 0) (sk := 0) dX12_worked_86 m_X12_bounded qm_X12_212 qs_X12_bounded rfl (s_iret dX12_worked_89 rfl))))) (s_iconst dX12_worked_79 (s_goto (tgt := 89) dX12_worked_80 (by decide) (s_iret dX12_worked_89 rfl))))))
    | 4, hi, ht => cases hi; cases ht; exact s_lload_n dX12_worked_90 rfl (s_lload_n dX12_worked_91 rfl (s_lcmp dX12_worked_92 (s_ifne (tgt := 100) dX12_worked_93 (by decide) (s_iconst dX12_worked_100 (s_iret dX12_worked_101 rfl)) (s_iconst dX12_worked_96 (s_goto (tgt := 101) dX12_worked_97 (by decide) (s_iret dX12_worked_101 rfl))))))
    | 5, hi, ht => cases hi; cases ht; exact s_lload_n dX12_worked_102 rfl (s_lload_n dX12_worked_103 rfl (s_lcmp dX12_worked_104 (s_ifge (tgt := 112) dX12_worked_105 (by decide) (s_iconst dX12_worked_112 (s_iret dX12_worked_113 rfl)) (s_iconst dX12_worked_108 (s_goto (tgt := 113) dX12_worked_109 (by decide) (s_iret dX12_worked_113 rfl))))))
    | 6, hi, ht => cases hi; cases ht; exact s_lload_n dX12_worked_114 rfl (s_lload_n dX12_worked_115 rfl (s_lcmp dX12_worked_116 (s_ifle (tgt := 124) dX12_worked_117 (by decide) (s_iconst dX12_worked_124 (s_iret dX12_worked_125 rfl)) (s_iconst dX12_worked_120 (s_goto (tgt := 125) dX12_worked_121 (by decide) (s_iret dX12_worked_125 rfl))))))
    | 7, hi, ht => cases hi; cases ht; exact s_lload_n dX12_worked_144 rfl (s_lconst dX12_worked_145 rfl (s_lcmp dX12_worked_146 (s_ifne (tgt := 156) dX12_worked_147 (by decide) (s_iconst dX12_worked_156 (s_goto (tgt := 161) dX12_worked_157 (by decide) (s_iret dX12_worked_161 rfl))) (s_lload_n dX12_worked_150 rfl (s_lconst dX12_worked_151 rfl (s_lcmp dX12_worked_152 (s_ifeq (tgt := 160) dX12_worked_153 (by decide) (s_iconst dX12_worked_160 (s_iret dX12_worked_161 rfl)) (s_iconst dX12_worked_156 (s_goto (tgt := 161) dX12_worked_157 (by decide) (s_iret dX12_worked_161 rfl))))))))))
    | 8, hi, ht => cases hi; cases ht; exact s_lload_n dX12_worked_126 rfl (s_lconst dX12_worked_127 rfl (s_lcmp dX12_worked_128 (s_ifeq (tgt := 142) dX12_worked_129 (by decide) (s_iconst dX12_worked_142 (s_iret dX12_worked_143 rfl)) (s_lload_n dX12_worked_132 rfl (s_lconst dX12_worked_133 rfl (s_lcmp dX12_worked_134 (s_ifeq (tgt := 142) dX12_worked_135 (by decide) (s_iconst dX12_worked_142 (s_iret dX12_worked_143 rfl)) (s_iconst dX12_worked_138 (s_goto (tgt := 143) dX12_worked_139 (by decide) (s_iret dX12_worked_143 rfl))))))))))
    | i + 9, hi, ht => simp at hi))
theorem dX12_bounded_0 : decode cX12_bounded 0 = .ok (.ldc2_w 199, 3) := by decide +kernel
theorem dX12_bounded_3 : decode cX12_bounded 3 = .ok (.ldc2_w 201, 3) := by decide +kernel
theorem dX12_bounded_6 : decode cX12_bounded 6 = .ok (.lload_n 0, 1) := by decide +kernel
theorem dX12_bounded_7 : decode cX12_bounded 7 = .ok (.invokestatic 203, 3) := by decide +kernel
theorem dX12_bounded_10 : decode cX12_bounded 10 = .ok (.invokestatic 209, 3) := by decide +kernel
theorem dX12_bounded_13 : decode cX12_bounded 13 = .ok (.l2i, 1) := by decide +kernel
theorem dX12_bounded_14 : decode cX12_bounded 14 = .ok (.ireturn, 1) := by decide +kernel
def kX12_bounded_0 (g : sk_G) (d ck sk : Nat) (Q : sk_P) : sk_K := o_l (-1000000) (o_l (1000000) (o_lload 0 (o_minl (g, d, ck, sk, xX12_bounded, Q) (o_maxl (g, d, ck, sk, xX12_bounded, Q) (o_l2i (o_iret (g, d, ck, sk, xX12_bounded, Q)))))))
theorem tX12_bounded_0 {g : sk_G} {d ck sk : Nat} {Q : sk_P} : sk_S (g, d, ck, sk, xX12_bounded, Q) 0 (kX12_bounded_0 g d ck sk Q) := s_ldc2 dX12_bounded_0 qk_X12_199 rfl (s_ldc2 dX12_bounded_3 qk_X12_201 rfl (s_lload_n dX12_bounded_6 rfl (s_minl dX12_bounded_7 qm_X12_203 qs_Mminl qz_J9 qc_Mminl (s_maxl dX12_bounded_10 qm_X12_209 qs_Mmaxl qz_J9 qc_Mmaxl (s_l2i dX12_bounded_13 (s_iret dX12_bounded_14 rfl))))))
theorem dX12_strengthAll_0 : decode cX12_strengthAll 0 = .ok (.iconst 0, 1) := by decide +kernel
theorem dX12_strengthAll_1 : decode cX12_strengthAll 1 = .ok (.istore_n 1, 1) := by decide +kernel
theorem dX12_strengthAll_2 : decode cX12_strengthAll 2 = .ok (.iconst 0, 1) := by decide +kernel
theorem dX12_strengthAll_3 : decode cX12_strengthAll 3 = .ok (.istore_n 2, 1) := by decide +kernel
theorem dX12_strengthAll_4 : decode cX12_strengthAll 4 = .ok (.iload_n 2, 1) := by decide +kernel
theorem dX12_strengthAll_5 : decode cX12_strengthAll 5 = .ok (.aload_n 0, 1) := by decide +kernel
theorem dX12_strengthAll_6 : decode cX12_strengthAll 6 = .ok (.getfield 270, 3) := by decide +kernel
theorem dX12_strengthAll_9 : decode cX12_strengthAll 9 = .ok (.if_icmp .ge 18, 3) := by decide +kernel
theorem dX12_strengthAll_12 : decode cX12_strengthAll 12 = .ok (.iload_n 1, 1) := by decide +kernel
theorem dX12_strengthAll_13 : decode cX12_strengthAll 13 = .ok (.aload_n 0, 1) := by decide +kernel
theorem dX12_strengthAll_14 : decode cX12_strengthAll 14 = .ok (.iload_n 2, 1) := by decide +kernel
theorem dX12_strengthAll_15 : decode cX12_strengthAll 15 = .ok (.iconst 1, 1) := by decide +kernel
theorem dX12_strengthAll_16 : decode cX12_strengthAll 16 = .ok (.invokevirtual 298, 3) := by decide +kernel
theorem dX12_strengthAll_19 : decode cX12_strengthAll 19 = .ok (.iadd, 1) := by decide +kernel
theorem dX12_strengthAll_20 : decode cX12_strengthAll 20 = .ok (.istore_n 1, 1) := by decide +kernel
theorem dX12_strengthAll_21 : decode cX12_strengthAll 21 = .ok (.iinc 2 1, 3) := by decide +kernel
theorem dX12_strengthAll_24 : decode cX12_strengthAll 24 = .ok (.goto (-20), 3) := by decide +kernel
theorem dX12_strengthAll_27 : decode cX12_strengthAll 27 = .ok (.iload_n 1, 1) := by decide +kernel
theorem dX12_strengthAll_28 : decode cX12_strengthAll 28 = .ok (.ireturn, 1) := by decide +kernel
def kX12_strengthAll_0 (g : sk_G) (d ck sk : Nat) (Q : sk_P) : sk_K := o_i (0) (o_istore 1 (o_i (0) (o_istore 2 (sk_B (g, d, ck, sk, xX12_strengthAll, Q) 4))))
theorem tX12_strengthAll_0 {g : sk_G} {d ck sk : Nat} {Q : sk_P} : sk_S (g, d, ck, sk, xX12_strengthAll, Q) 0 (kX12_strengthAll_0 g d ck sk Q) := s_iconst dX12_strengthAll_0 (s_istore_n dX12_strengthAll_1 rfl (by decide : 1 < 3) (s_iconst dX12_strengthAll_2 (s_istore_n dX12_strengthAll_3 rfl (by decide : 2 < 3) (sk_id))))
set_option maxRecDepth 20000 in
def kX12_strengthAll_4 (g : sk_G) (d ck sk : Nat) (Q : sk_P) : sk_K := o_iload 2 (o_aload 0 (o_getf 12 22 (o_icge (o_iload 1 (o_iret (g, d, ck, sk, xX12_strengthAll, Q))) (o_iload 1 (o_aload 0 (o_iload 2 (o_i (1) (o_invB (g, d, ck, sk, xX12_strengthAll, Q) xX12_ofHand 2 12 0 0 (o_iadd (o_istore 1 (o_iinc 2 (1) (sk_B (g, d, ck, sk, xX12_strengthAll, Q) 4))))))))))))
set_option maxRecDepth 20000 in
theorem tX12_strengthAll_4 {g : sk_G} {d ck sk : Nat} {Q : sk_P} : sk_S (g, d, ck, sk, xX12_strengthAll, Q) 4 (kX12_strengthAll_4 g d ck sk Q) := s_iload_n dX12_strengthAll_4 rfl (s_aload_n dX12_strengthAll_5 rfl (s_getf (ci := 12) (j := 22) (C := RX12) (T := TX12) (N := 49) dX12_strengthAll_6 rfl (by decide) (by decide) qf_X12_270 (s_icge (tgt := 27) dX12_strengthAll_9 (by decide) (s_iload_n dX12_strengthAll_27 rfl (s_iret dX12_strengthAll_28 rfl)) (s_iload_n dX12_strengthAll_12 rfl (s_aload_n dX12_strengthAll_13 rfl (s_iload_n dX12_strengthAll_14 rfl (s_iconst dX12_strengthAll_15 (s_invB (w' := (g, d, ck, sk, xX12_strengthAll, Q)) (ci := 12) (ck := 0) (sk := 0) (T := TX12) (N := 49) dX12_strengthAll_16 m_X12_ofHand rfl (by decide) qm_X12_298 qi_X12_ofHand qe_X12_ofHand rfl (s_iadd dX12_strengthAll_19 (s_istore_n dX12_strengthAll_20 rfl (by decide : 1 < 3) (s_iinc dX12_strengthAll_21 (by decide : 2 < 3) (s_goto (tgt := 4) dX12_strengthAll_24 (by decide) (sk_id)))))))))))))
theorem dX12_shownMany_0 : decode cX12_shownMany 0 = .ok (.iconst 0, 1) := by decide +kernel
theorem dX12_shownMany_1 : decode cX12_shownMany 1 = .ok (.istore_n 1, 1) := by decide +kernel
theorem dX12_shownMany_2 : decode cX12_shownMany 2 = .ok (.iconst 0, 1) := by decide +kernel
theorem dX12_shownMany_3 : decode cX12_shownMany 3 = .ok (.istore_n 2, 1) := by decide +kernel
theorem dX12_shownMany_4 : decode cX12_shownMany 4 = .ok (.iload_n 2, 1) := by decide +kernel
theorem dX12_shownMany_5 : decode cX12_shownMany 5 = .ok (.aload_n 0, 1) := by decide +kernel
theorem dX12_shownMany_6 : decode cX12_shownMany 6 = .ok (.getfield 273, 3) := by decide +kernel
theorem dX12_shownMany_9 : decode cX12_shownMany 9 = .ok (.if_icmp .ge 27, 3) := by decide +kernel
theorem dX12_shownMany_12 : decode cX12_shownMany 12 = .ok (.iload_n 1, 1) := by decide +kernel
theorem dX12_shownMany_13 : decode cX12_shownMany 13 = .ok (.aload_n 0, 1) := by decide +kernel
theorem dX12_shownMany_14 : decode cX12_shownMany 14 = .ok (.iload_n 2, 1) := by decide +kernel
theorem dX12_shownMany_15 : decode cX12_shownMany 15 = .ok (.invokevirtual 307, 3) := by decide +kernel
theorem dX12_shownMany_18 : decode cX12_shownMany 18 = .ok (.bipush 26, 2) := by decide +kernel
theorem dX12_shownMany_20 : decode cX12_shownMany 20 = .ok (.if_icmp .eq 7, 3) := by decide +kernel
theorem dX12_shownMany_23 : decode cX12_shownMany 23 = .ok (.iconst 1, 1) := by decide +kernel
theorem dX12_shownMany_24 : decode cX12_shownMany 24 = .ok (.goto 4, 3) := by decide +kernel
theorem dX12_shownMany_27 : decode cX12_shownMany 27 = .ok (.iconst 0, 1) := by decide +kernel
theorem dX12_shownMany_28 : decode cX12_shownMany 28 = .ok (.iadd, 1) := by decide +kernel
theorem dX12_shownMany_29 : decode cX12_shownMany 29 = .ok (.istore_n 1, 1) := by decide +kernel
theorem dX12_shownMany_30 : decode cX12_shownMany 30 = .ok (.iinc 2 1, 3) := by decide +kernel
theorem dX12_shownMany_33 : decode cX12_shownMany 33 = .ok (.goto (-29), 3) := by decide +kernel
theorem dX12_shownMany_36 : decode cX12_shownMany 36 = .ok (.iload_n 1, 1) := by decide +kernel
theorem dX12_shownMany_37 : decode cX12_shownMany 37 = .ok (.ireturn, 1) := by decide +kernel
def kX12_shownMany_0 (g : sk_G) (d ck sk : Nat) (Q : sk_P) : sk_K := o_i (0) (o_istore 1 (o_i (0) (o_istore 2 (sk_B (g, d, ck, sk, xX12_shownMany, Q) 4))))
theorem tX12_shownMany_0 {g : sk_G} {d ck sk : Nat} {Q : sk_P} : sk_S (g, d, ck, sk, xX12_shownMany, Q) 0 (kX12_shownMany_0 g d ck sk Q) := s_iconst dX12_shownMany_0 (s_istore_n dX12_shownMany_1 rfl (by decide : 1 < 3) (s_iconst dX12_shownMany_2 (s_istore_n dX12_shownMany_3 rfl (by decide : 2 < 3) (sk_id))))
set_option maxRecDepth 20000 in
def kX12_shownMany_4 (g : sk_G) (d ck sk : Nat) (Q : sk_P) : sk_K := o_iload 2 (o_aload 0 (o_getf 12 23 (o_icge (o_iload 1 (o_iret (g, d, ck, sk, xX12_shownMany, Q))) (o_iload 1 (o_aload 0 (o_iload 2 (o_invB (g, d, ck, sk, xX12_shownMany, Q) xX12_showsAt 1 12 0 0 (o_i (26) (o_iceq (o_i (0) (o_iadd (o_istore 1 (o_iinc 2 (1) (sk_B (g, d, ck, sk, xX12_shownMany, Q) 4))))) (o_i (1) (o_iadd (o_istore 1 (o_iinc 2 (1) (sk_B (g, d, ck, sk, xX12_shownMany, Q) 4))))))))))))))
set_option maxRecDepth 20000 in
theorem tX12_shownMany_4 {g : sk_G} {d ck sk : Nat} {Q : sk_P} : sk_S (g, d, ck, sk, xX12_shownMany, Q) 4 (kX12_shownMany_4 g d ck sk Q) := s_iload_n dX12_shownMany_4 rfl (s_aload_n dX12_shownMany_5 rfl (s_getf (ci := 12) (j := 23) (C := RX12) (T := TX12) (N := 49) dX12_shownMany_6 rfl (by decide) (by decide) qf_X12_273 (s_icge (tgt := 36) dX12_shownMany_9 (by decide) (s_iload_n dX12_shownMany_36 rfl (s_iret dX12_shownMany_37 rfl)) (s_iload_n dX12_shownMany_12 rfl (s_aload_n dX12_shownMany_13 rfl (s_iload_n dX12_shownMany_14 rfl (s_invB (w' := (g, d, ck, sk, xX12_shownMany, Q)) (ci := 12) (ck := 0) (sk := 0) (T := TX12) (N := 49) dX12_shownMany_15 m_X12_showsAt rfl (by decide) qm_X12_307 qi_X12_showsAt qe_X12_showsAt rfl (s_bipush dX12_shownMany_18 rfl (s_iceq (tgt := 27) dX12_shownMany_20 (by decide) (s_iconst dX12_shownMany_27 (s_iadd dX12_shownMany_28 (s_istore_n dX12_shownMany_29 rfl (by decide : 1 < 3) (s_iinc dX12_shownMany_30 (by decide : 2 < 3) (s_goto (tgt := 4) dX12_shownMany_33 (by decide) (sk_id)))))) (s_iconst dX12_shownMany_23 (s_goto (tgt := 28) dX12_shownMany_24 (by decide) (s_iadd dX12_shownMany_28 (s_istore_n dX12_shownMany_29 rfl (by decide : 1 < 3) (s_iinc dX12_shownMany_30 (by decide : 2 < 3) (s_goto (tgt := 4) dX12_shownMany_33 (by decide) (sk_id))))))))))))))))
theorem dX12_showsAt_0 : decode cX12_showsAt 0 = .ok (.aload_n 0, 1) := by decide +kernel
theorem dX12_showsAt_1 : decode cX12_showsAt 1 = .ok (.getfield 61, 3) := by decide +kernel
theorem dX12_showsAt_4 : decode cX12_showsAt 4 = .ok (.iconst 0, 1) := by decide +kernel
theorem dX12_showsAt_5 : decode cX12_showsAt 5 = .ok (.iload_n 1, 1) := by decide +kernel
theorem dX12_showsAt_6 : decode cX12_showsAt 6 = .ok (.iadd, 1) := by decide +kernel
theorem dX12_showsAt_7 : decode cX12_showsAt 7 = .ok (.iaload, 1) := by decide +kernel
theorem dX12_showsAt_8 : decode cX12_showsAt 8 = .ok (.iconst 1, 1) := by decide +kernel
theorem dX12_showsAt_9 : decode cX12_showsAt 9 = .ok (.isub, 1) := by decide +kernel
theorem dX12_showsAt_10 : decode cX12_showsAt 10 = .ok (.istore_n 2, 1) := by decide +kernel
theorem dX12_showsAt_11 : decode cX12_showsAt 11 = .ok (.iload_n 2, 1) := by decide +kernel
theorem dX12_showsAt_12 : decode cX12_showsAt 12 = .ok (.ifCond .lt 22, 3) := by decide +kernel
theorem dX12_showsAt_15 : decode cX12_showsAt 15 = .ok (.aload_n 0, 1) := by decide +kernel
theorem dX12_showsAt_16 : decode cX12_showsAt 16 = .ok (.iload_n 1, 1) := by decide +kernel
theorem dX12_showsAt_17 : decode cX12_showsAt 17 = .ok (.iload_n 2, 1) := by decide +kernel
theorem dX12_showsAt_18 : decode cX12_showsAt 18 = .ok (.invokevirtual 301, 3) := by decide +kernel
theorem dX12_showsAt_21 : decode cX12_showsAt 21 = .ok (.ifCond .eq 13, 3) := by decide +kernel
theorem dX12_showsAt_24 : decode cX12_showsAt 24 = .ok (.aload_n 0, 1) := by decide +kernel
theorem dX12_showsAt_25 : decode cX12_showsAt 25 = .ok (.iload_n 1, 1) := by decide +kernel
theorem dX12_showsAt_26 : decode cX12_showsAt 26 = .ok (.iload_n 2, 1) := by decide +kernel
theorem dX12_showsAt_27 : decode cX12_showsAt 27 = .ok (.iconst 0, 1) := by decide +kernel
theorem dX12_showsAt_28 : decode cX12_showsAt 28 = .ok (.invokevirtual 295, 3) := by decide +kernel
theorem dX12_showsAt_31 : decode cX12_showsAt 31 = .ok (.goto 5, 3) := by decide +kernel
theorem dX12_showsAt_34 : decode cX12_showsAt 34 = .ok (.bipush 26, 2) := by decide +kernel
theorem dX12_showsAt_36 : decode cX12_showsAt 36 = .ok (.ireturn, 1) := by decide +kernel
set_option maxRecDepth 20000 in
def kX12_showsAt_0 (g : sk_G) (d ck sk : Nat) (Q : sk_P) : sk_K := o_aload 0 (o_getf 12 28 (o_i (0) (o_iload 1 (o_iadd (o_iaload (o_i (1) (o_isub (o_istore 2 (o_iload 2 (o_iflt (o_i (26) (o_iret (g, d, ck, sk, xX12_showsAt, Q))) (o_aload 0 (o_iload 1 (o_iload 2 (o_invT (g, d, ck, sk, xX12_showsAt, Q) 3 2 12 (fun Q => kX12_isLegible_0 g (d - 1) 0 0 Q) (o_ifeq (o_i (26) (o_iret (g, d, ck, sk, xX12_showsAt, Q))) (o_aload 0 (o_iload 1 (o_iload 2 (o_i (0) (o_invT (g, d, ck, sk, xX12_showsAt, Q) 4 3 12 (fun Q => kX12_of_0 g (d - 1) 0 0 Q) (o_iret (g, d, ck, sk, xX12_showsAt, Q))))))))))))))))))))))
set_option maxRecDepth 20000 in
theorem tX12_showsAt_0 {g : sk_G} {d ck sk : Nat} {Q : sk_P} : sk_S (g, d, ck, sk, xX12_showsAt, Q) 0 (kX12_showsAt_0 g d ck sk Q) := s_aload_n dX12_showsAt_0 rfl (s_getf (ci := 12) (j := 28) (C := RX12) (T := TX12) (N := 49) dX12_showsAt_1 rfl (by decide) (by decide) qf_X12_61 (s_iconst dX12_showsAt_4 (s_iload_n dX12_showsAt_5 rfl (s_iadd dX12_showsAt_6 (s_iaload dX12_showsAt_7 (s_iconst dX12_showsAt_8 (s_isub dX12_showsAt_9 (s_istore_n dX12_showsAt_10 rfl (by decide : 2 < 3) (s_iload_n dX12_showsAt_11 rfl (s_iflt (tgt := 34) dX12_showsAt_12 (by decide) (s_bipush dX12_showsAt_34 rfl (s_iret dX12_showsAt_36 rfl)) (s_aload_n dX12_showsAt_15 rfl (s_iload_n dX12_showsAt_16 rfl (s_iload_n dX12_showsAt_17 rfl (s_invT (X := xX12_isLegible) (ci := 12) (T := TX12) (N := 49) (K := (fun Q => kX12_isLegible_0 g (d - 1) 0 0 Q)) (fun _ => tX12_isLegible_0) rfl dX12_showsAt_18 m_X12_isLegible rfl (by decide) qm_X12_301 qi_X12_isLegible qe_X12_isLegible (s_ifeq (tgt := 34) dX12_showsAt_21 (by decide) (s_bipush dX12_showsAt_34 rfl (s_iret dX12_showsAt_36 rfl)) (s_aload_n dX12_showsAt_24 rfl (s_iload_n dX12_showsAt_25 rfl (s_iload_n dX12_showsAt_26 rfl (s_iconst dX12_showsAt_27 (s_invT (X := xX12_of) (ci := 12) (T := TX12) (N := 49) (K := (fun Q => kX12_of_0 g (d - 1) 0 0 Q)) (fun _ => tX12_of_0) rfl dX12_showsAt_28 m_X12_of rfl (by decide) qm_X12_295 qi_X12_of qe_X12_of (s_goto (tgt := 36) dX12_showsAt_31 (by decide) (s_iret dX12_showsAt_36 rfl))))))))))))))))))))))
theorem dX12_give_0 : decode cX12_give 0 = .ok (.aload_n 0, 1) := by decide +kernel
theorem dX12_give_1 : decode cX12_give 1 = .ok (.aload_n 0, 1) := by decide +kernel
theorem dX12_give_2 : decode cX12_give 2 = .ok (.getfield 273, 3) := by decide +kernel
theorem dX12_give_5 : decode cX12_give 5 = .ok (.ifCond .ne 7, 3) := by decide +kernel
theorem dX12_give_8 : decode cX12_give 8 = .ok (.iconst 0, 1) := by decide +kernel
theorem dX12_give_9 : decode cX12_give 9 = .ok (.goto 34, 3) := by decide +kernel
theorem dX12_give_12 : decode cX12_give 12 = .ok (.iload_n 1, 1) := by decide +kernel
theorem dX12_give_13 : decode cX12_give 13 = .ok (.iconst 1, 1) := by decide +kernel
theorem dX12_give_14 : decode cX12_give 14 = .ok (.bipush 50, 2) := by decide +kernel
theorem dX12_give_16 : decode cX12_give 16 = .ok (.invokestatic 224, 3) := by decide +kernel
theorem dX12_give_19 : decode cX12_give 19 = .ok (.ifCond .eq 19, 3) := by decide +kernel
theorem dX12_give_22 : decode cX12_give 22 = .ok (.aload_n 0, 1) := by decide +kernel
theorem dX12_give_23 : decode cX12_give 23 = .ok (.getfield 61, 3) := by decide +kernel
theorem dX12_give_26 : decode cX12_give 26 = .ok (.sipush 760, 3) := by decide +kernel
theorem dX12_give_29 : decode cX12_give 29 = .ok (.iaload, 1) := by decide +kernel
theorem dX12_give_30 : decode cX12_give 30 = .ok (.iload_n 1, 1) := by decide +kernel
theorem dX12_give_31 : decode cX12_give 31 = .ok (.iadd, 1) := by decide +kernel
theorem dX12_give_32 : decode cX12_give 32 = .ok (.sipush 999, 3) := by decide +kernel
theorem dX12_give_35 : decode cX12_give 35 = .ok (.if_icmp .le 7, 3) := by decide +kernel
theorem dX12_give_38 : decode cX12_give 38 = .ok (.iconst 1, 1) := by decide +kernel
theorem dX12_give_39 : decode cX12_give 39 = .ok (.goto 4, 3) := by decide +kernel
theorem dX12_give_42 : decode cX12_give 42 = .ok (.iconst (-1), 1) := by decide +kernel
theorem dX12_give_43 : decode cX12_give 43 = .ok (.invokevirtual 364, 3) := by decide +kernel
theorem dX12_give_46 : decode cX12_give 46 = .ok (.ifCond .eq 5, 3) := by decide +kernel
theorem dX12_give_49 : decode cX12_give 49 = .ok (.iconst (-1), 1) := by decide +kernel
theorem dX12_give_50 : decode cX12_give 50 = .ok (.ireturn, 1) := by decide +kernel
theorem dX12_give_51 : decode cX12_give 51 = .ok (.aload_n 0, 1) := by decide +kernel
theorem dX12_give_52 : decode cX12_give 52 = .ok (.invokevirtual 367, 3) := by decide +kernel
theorem dX12_give_55 : decode cX12_give 55 = .ok (.aload_n 0, 1) := by decide +kernel
theorem dX12_give_56 : decode cX12_give 56 = .ok (.getfield 61, 3) := by decide +kernel
theorem dX12_give_59 : decode cX12_give 59 = .ok (.sipush 760, 3) := by decide +kernel
theorem dX12_give_62 : decode cX12_give 62 = .ok (.dup2, 1) := by decide +kernel
theorem dX12_give_63 : decode cX12_give 63 = .ok (.iaload, 1) := by decide +kernel
theorem dX12_give_64 : decode cX12_give 64 = .ok (.iload_n 1, 1) := by decide +kernel
theorem dX12_give_65 : decode cX12_give 65 = .ok (.iadd, 1) := by decide +kernel
theorem dX12_give_66 : decode cX12_give 66 = .ok (.iastore, 1) := by decide +kernel
theorem dX12_give_67 : decode cX12_give 67 = .ok (.aload_n 0, 1) := by decide +kernel
theorem dX12_give_68 : decode cX12_give 68 = .ok (.getfield 61, 3) := by decide +kernel
theorem dX12_give_71 : decode cX12_give 71 = .ok (.sipush 760, 3) := by decide +kernel
theorem dX12_give_74 : decode cX12_give 74 = .ok (.iaload, 1) := by decide +kernel
theorem dX12_give_75 : decode cX12_give 75 = .ok (.ireturn, 1) := by decide +kernel
set_option maxRecDepth 20000 in
def kX12_give_0 (g : sk_G) (d ck sk : Nat) (Q : sk_P) : sk_K := o_aload 0 (o_aload 0 (o_getf 12 23 (o_ifne (o_iload 1 (o_i (1) (o_i (50) (o_stcT (g, d, ck, sk, xX12_give, Q) 3 3 (fun Q => kX12_in_0 g (d - 1) 0 0 Q) (o_ifeq (o_i (1) (sk_B (g, d, ck, sk, xX12_give, Q) 43)) (o_aload 0 (o_getf 12 28 (o_i (760) (o_iaload (o_iload 1 (o_iadd (o_i (999) (o_icle (o_i (-1) (sk_B (g, d, ck, sk, xX12_give, Q) 43)) (o_i (1) (sk_B (g, d, ck, sk, xX12_give, Q) 43))))))))))))))) (o_i (0) (sk_B (g, d, ck, sk, xX12_give, Q) 43)))))
set_option maxRecDepth 20000 in
theorem tX12_give_0 {g : sk_G} {d ck sk : Nat} {Q : sk_P} : sk_S (g, d, ck, sk, xX12_give, Q) 0 (kX12_give_0 g d ck sk Q) := s_aload_n dX12_give_0 rfl (s_aload_n dX12_give_1 rfl (s_getf (ci := 12) (j := 23) (C := RX12) (T := TX12) (N := 49) dX12_give_2 rfl (by decide) (by decide) qf_X12_273 (s_ifne (tgt := 12) dX12_give_5 (by decide) (s_iload_n dX12_give_12 rfl (s_iconst dX12_give_13 (s_bipush dX12_give_14 rfl (s_stcT (X := xX12_in) (K := (fun Q => kX12_in_0 g (d - 1) 0 0 Q)) (fun _ => tX12_in_0) rfl dX12_give_16 m_X12_in qm_X12_224 qs_X12_in (s_ifeq (tgt := 38) dX12_give_19 (by decide) (s_iconst dX12_give_38 (s_goto (tgt := 43) dX12_give_39 (by decide) (sk_id))) (s_aload_n dX12_give_22 rfl (s_getf (ci := 12) (j := 28) (C := RX12) (T := TX12) (N := 49) dX12_give_23 rfl (by decide) (by decide) qf_X12_61 (s_sipush dX12_give_26 rfl (s_iaload dX12_give_29 (s_iload_n dX12_give_30 rfl (s_iadd dX12_give_31 (s_sipush dX12_give_32 rfl (s_icle (tgt := 42) dX12_give_35 (by decide) (s_iconst dX12_give_42 (sk_id)) (s_iconst dX12_give_38 (s_goto (tgt := 43) dX12_give_39 (by decide) (sk_id)))))))))))))))) (s_iconst dX12_give_8 (s_goto (tgt := 43) dX12_give_9 (by decide) (sk_id))))))
set_option maxRecDepth 20000 in
def kX12_give_43 (g : sk_G) (d ck sk : Nat) (Q : sk_P) : sk_K := o_invT (g, d, ck, sk, xX12_give, Q) 2 1 12 (fun Q => kX12_isRefused_0 g (d - 1) 0 0 Q) (o_ifeq (o_aload 0 (o_invB (g, d, ck, sk, xX12_give, Q) xX12_keep 0 12 0 0 (o_aload 0 (o_getf 12 28 (o_i (760) (o_dup2 (o_iaload (o_iload 1 (o_iadd (o_iastore (o_aload 0 (o_getf 12 28 (o_i (760) (o_iaload (o_iret (g, d, ck, sk, xX12_give, Q)))))))))))))))) (o_i (-1) (o_iret (g, d, ck, sk, xX12_give, Q))))
set_option maxRecDepth 20000 in
theorem tX12_give_43 {g : sk_G} {d ck sk : Nat} {Q : sk_P} : sk_S (g, d, ck, sk, xX12_give, Q) 43 (kX12_give_43 g d ck sk Q) := s_invT (X := xX12_isRefused) (ci := 12) (T := TX12) (N := 49) (K := (fun Q => kX12_isRefused_0 g (d - 1) 0 0 Q)) (fun _ => tX12_isRefused_0) rfl dX12_give_43 m_X12_isRefused rfl (by decide) qm_X12_364 qi_X12_isRefused qe_X12_isRefused (s_ifeq (tgt := 51) dX12_give_46 (by decide) (s_aload_n dX12_give_51 rfl (s_invB (w' := (g, d, ck, sk, xX12_give, Q)) (ci := 12) (ck := 0) (sk := 0) (T := TX12) (N := 49) dX12_give_52 m_X12_keep rfl (by decide) qm_X12_367 qi_X12_keep qe_X12_keep rfl (s_aload_n dX12_give_55 rfl (s_getf (ci := 12) (j := 28) (C := RX12) (T := TX12) (N := 49) dX12_give_56 rfl (by decide) (by decide) qf_X12_61 (s_sipush dX12_give_59 rfl (s_dup2 dX12_give_62 (s_iaload dX12_give_63 (s_iload_n dX12_give_64 rfl (s_iadd dX12_give_65 (s_iastore dX12_give_66 (s_aload_n dX12_give_67 rfl (s_getf (ci := 12) (j := 28) (C := RX12) (T := TX12) (N := 49) dX12_give_68 rfl (by decide) (by decide) qf_X12_61 (s_sipush dX12_give_71 rfl (s_iaload dX12_give_74 (s_iret dX12_give_75 rfl))))))))))))))) (s_iconst dX12_give_49 (s_iret dX12_give_50 rfl)))
theorem dX12_years_0 : decode cX12_years 0 = .ok (.aload_n 0, 1) := by decide +kernel
theorem dX12_years_1 : decode cX12_years 1 = .ok (.getfield 273, 3) := by decide +kernel
theorem dX12_years_4 : decode cX12_years 4 = .ok (.ifCond .eq 11, 3) := by decide +kernel
theorem dX12_years_7 : decode cX12_years 7 = .ok (.aload_n 0, 1) := by decide +kernel
theorem dX12_years_8 : decode cX12_years 8 = .ok (.iload_n 1, 1) := by decide +kernel
theorem dX12_years_9 : decode cX12_years 9 = .ok (.invokevirtual 385, 3) := by decide +kernel
theorem dX12_years_12 : decode cX12_years 12 = .ok (.ifCond .ne 5, 3) := by decide +kernel
theorem dX12_years_15 : decode cX12_years 15 = .ok (.iconst (-1), 1) := by decide +kernel
theorem dX12_years_16 : decode cX12_years 16 = .ok (.ireturn, 1) := by decide +kernel
theorem dX12_years_17 : decode cX12_years 17 = .ok (.aload_n 0, 1) := by decide +kernel
theorem dX12_years_18 : decode cX12_years 18 = .ok (.lload_n 2, 1) := by decide +kernel
theorem dX12_years_19 : decode cX12_years 19 = .ok (.putfield 391, 3) := by decide +kernel
theorem dX12_years_22 : decode cX12_years 22 = .ok (.iconst 0, 1) := by decide +kernel
theorem dX12_years_23 : decode cX12_years 23 = .ok (.istore 4, 2) := by decide +kernel
theorem dX12_years_25 : decode cX12_years 25 = .ok (.iload 4, 2) := by decide +kernel
theorem dX12_years_27 : decode cX12_years 27 = .ok (.iload_n 1, 1) := by decide +kernel
theorem dX12_years_28 : decode cX12_years 28 = .ok (.if_icmp .ge 21, 3) := by decide +kernel
theorem dX12_years_31 : decode cX12_years 31 = .ok (.aload_n 0, 1) := by decide +kernel
theorem dX12_years_32 : decode cX12_years 32 = .ok (.invokevirtual 367, 3) := by decide +kernel
theorem dX12_years_35 : decode cX12_years 35 = .ok (.aload_n 0, 1) := by decide +kernel
theorem dX12_years_36 : decode cX12_years 36 = .ok (.invokevirtual 402, 3) := by decide +kernel
theorem dX12_years_39 : decode cX12_years 39 = .ok (.aload_n 0, 1) := by decide +kernel
theorem dX12_years_40 : decode cX12_years 40 = .ok (.invokevirtual 388, 3) := by decide +kernel
theorem dX12_years_43 : decode cX12_years 43 = .ok (.iinc 4 1, 3) := by decide +kernel
theorem dX12_years_46 : decode cX12_years 46 = .ok (.goto (-21), 3) := by decide +kernel
theorem dX12_years_49 : decode cX12_years 49 = .ok (.aload_n 0, 1) := by decide +kernel
theorem dX12_years_50 : decode cX12_years 50 = .ok (.getfield 61, 3) := by decide +kernel
theorem dX12_years_53 : decode cX12_years 53 = .ok (.sipush 761, 3) := by decide +kernel
theorem dX12_years_56 : decode cX12_years 56 = .ok (.iaload, 1) := by decide +kernel
theorem dX12_years_57 : decode cX12_years 57 = .ok (.ireturn, 1) := by decide +kernel
set_option maxRecDepth 20000 in
def kX12_years_0 (g : sk_G) (d ck sk : Nat) (Q : sk_P) : sk_K := o_aload 0 (o_getf 12 23 (o_ifeq (o_i (-1) (o_iret (g, d, ck, sk, xX12_years, Q))) (o_aload 0 (o_iload 1 (o_invT (g, d, ck, sk, xX12_years, Q) 2 1 12 (fun Q => kX12_areYears_0 g (d - 1) 0 0 Q) (o_ifne (o_aload 0 (o_lload 2 (o_putl 12 34 (o_i (0) (o_istore 4 (sk_B (g, d, ck, sk, xX12_years, Q) 25)))))) (o_i (-1) (o_iret (g, d, ck, sk, xX12_years, Q)))))))))
set_option maxRecDepth 20000 in
theorem tX12_years_0 {g : sk_G} {d ck sk : Nat} {Q : sk_P} : sk_S (g, d, ck, sk, xX12_years, Q) 0 (kX12_years_0 g d ck sk Q) := s_aload_n dX12_years_0 rfl (s_getf (ci := 12) (j := 23) (C := RX12) (T := TX12) (N := 49) dX12_years_1 rfl (by decide) (by decide) qf_X12_273 (s_ifeq (tgt := 15) dX12_years_4 (by decide) (s_iconst dX12_years_15 (s_iret dX12_years_16 rfl)) (s_aload_n dX12_years_7 rfl (s_iload_n dX12_years_8 rfl (s_invT (X := xX12_areYears) (ci := 12) (T := TX12) (N := 49) (K := (fun Q => kX12_areYears_0 g (d - 1) 0 0 Q)) (fun _ => tX12_areYears_0) rfl dX12_years_9 m_X12_areYears rfl (by decide) qm_X12_385 qi_X12_areYears qe_X12_areYears (s_ifne (tgt := 17) dX12_years_12 (by decide) (s_aload_n dX12_years_17 rfl (s_lload_n dX12_years_18 rfl (s_putl (ci := 12) (j := 34) (C := RX12) (T := TX12) (N := 49) dX12_years_19 rfl (by decide) (by decide) rfl (tyX12_ok 34 (by decide)) qf_X12_391 (s_iconst dX12_years_22 (s_istore dX12_years_23 (by decide : 4 < 5) (sk_id)))))) (s_iconst dX12_years_15 (s_iret dX12_years_16 rfl))))))))
set_option maxRecDepth 20000 in
def kX12_years_25 (g : sk_G) (d ck sk : Nat) (Q : sk_P) : sk_K := o_iload 4 (o_iload 1 (o_icge (o_aload 0 (o_getf 12 28 (o_i (761) (o_iaload (o_iret (g, d, ck, sk, xX12_years, Q)))))) (o_aload 0 (o_invB (g, d, ck, sk, xX12_years, Q) xX12_keep 0 12 0 0 (o_aload 0 (o_invB (g, d, ck, sk, xX12_years, Q) xX12_drawYear 0 12 0 0 (o_aload 0 (o_invB (g, d, ck, sk, xX12_years, Q) xX12_passYear 0 12 0 0 (o_iinc 4 (1) (sk_B (g, d, ck, sk, xX12_years, Q) 25))))))))))
set_option maxRecDepth 20000 in
theorem tX12_years_25 {g : sk_G} {d ck sk : Nat} {Q : sk_P} : sk_S (g, d, ck, sk, xX12_years, Q) 25 (kX12_years_25 g d ck sk Q) := s_iload dX12_years_25 (s_iload_n dX12_years_27 rfl (s_icge (tgt := 49) dX12_years_28 (by decide) (s_aload_n dX12_years_49 rfl (s_getf (ci := 12) (j := 28) (C := RX12) (T := TX12) (N := 49) dX12_years_50 rfl (by decide) (by decide) qf_X12_61 (s_sipush dX12_years_53 rfl (s_iaload dX12_years_56 (s_iret dX12_years_57 rfl))))) (s_aload_n dX12_years_31 rfl (s_invB (w' := (g, d, ck, sk, xX12_years, Q)) (ci := 12) (ck := 0) (sk := 0) (T := TX12) (N := 49) dX12_years_32 m_X12_keep rfl (by decide) qm_X12_367 qi_X12_keep qe_X12_keep rfl (s_aload_n dX12_years_35 rfl (s_invB (w' := (g, d, ck, sk, xX12_years, Q)) (ci := 12) (ck := 0) (sk := 0) (T := TX12) (N := 49) dX12_years_36 m_X12_drawYear rfl (by decide) qm_X12_402 qi_X12_drawYear qe_X12_drawYear rfl (s_aload_n dX12_years_39 rfl (s_invB (w' := (g, d, ck, sk, xX12_years, Q)) (ci := 12) (ck := 0) (sk := 0) (T := TX12) (N := 49) dX12_years_40 m_X12_passYear rfl (by decide) qm_X12_388 qi_X12_passYear qe_X12_passYear rfl (s_iinc dX12_years_43 (by decide : 4 < 5) (s_goto (tgt := 25) dX12_years_46 (by decide) (sk_id)))))))))))
theorem dX12_drawYear_0 : decode cX12_drawYear 0 = .ok (.aload_n 0, 1) := by decide +kernel
theorem dX12_drawYear_1 : decode cX12_drawYear 1 = .ok (.bipush 10, 2) := by decide +kernel
theorem dX12_drawYear_3 : decode cX12_drawYear 3 = .ok (.invokevirtual 399, 3) := by decide +kernel
theorem dX12_drawYear_6 : decode cX12_drawYear 6 = .ok (.aload_n 0, 1) := by decide +kernel
theorem dX12_drawYear_7 : decode cX12_drawYear 7 = .ok (.getfield 71, 3) := by decide +kernel
theorem dX12_drawYear_10 : decode cX12_drawYear 10 = .ok (.if_icmp .ge 75, 3) := by decide +kernel
theorem dX12_drawYear_13 : decode cX12_drawYear 13 = .ok (.aload_n 0, 1) := by decide +kernel
theorem dX12_drawYear_14 : decode cX12_drawYear 14 = .ok (.getfield 292, 3) := by decide +kernel
theorem dX12_drawYear_17 : decode cX12_drawYear 17 = .ok (.ifCond .le 68, 3) := by decide +kernel
theorem dX12_drawYear_20 : decode cX12_drawYear 20 = .ok (.aload_n 0, 1) := by decide +kernel
theorem dX12_drawYear_21 : decode cX12_drawYear 21 = .ok (.aload_n 0, 1) := by decide +kernel
theorem dX12_drawYear_22 : decode cX12_drawYear 22 = .ok (.getfield 292, 3) := by decide +kernel
theorem dX12_drawYear_25 : decode cX12_drawYear 25 = .ok (.invokevirtual 399, 3) := by decide +kernel
theorem dX12_drawYear_28 : decode cX12_drawYear 28 = .ok (.istore_n 1, 1) := by decide +kernel
theorem dX12_drawYear_29 : decode cX12_drawYear 29 = .ok (.aload_n 0, 1) := by decide +kernel
theorem dX12_drawYear_30 : decode cX12_drawYear 30 = .ok (.aload_n 0, 1) := by decide +kernel
theorem dX12_drawYear_31 : decode cX12_drawYear 31 = .ok (.getfield 270, 3) := by decide +kernel
theorem dX12_drawYear_34 : decode cX12_drawYear 34 = .ok (.invokevirtual 399, 3) := by decide +kernel
theorem dX12_drawYear_37 : decode cX12_drawYear 37 = .ok (.istore_n 2, 1) := by decide +kernel
theorem dX12_drawYear_38 : decode cX12_drawYear 38 = .ok (.aload_n 0, 1) := by decide +kernel
theorem dX12_drawYear_39 : decode cX12_drawYear 39 = .ok (.aload_n 0, 1) := by decide +kernel
theorem dX12_drawYear_40 : decode cX12_drawYear 40 = .ok (.getfield 273, 3) := by decide +kernel
theorem dX12_drawYear_43 : decode cX12_drawYear 43 = .ok (.invokevirtual 399, 3) := by decide +kernel
theorem dX12_drawYear_46 : decode cX12_drawYear 46 = .ok (.istore_n 3, 1) := by decide +kernel
theorem dX12_drawYear_47 : decode cX12_drawYear 47 = .ok (.aload_n 0, 1) := by decide +kernel
theorem dX12_drawYear_48 : decode cX12_drawYear 48 = .ok (.iconst 4, 1) := by decide +kernel
theorem dX12_drawYear_49 : decode cX12_drawYear 49 = .ok (.invokevirtual 399, 3) := by decide +kernel
theorem dX12_drawYear_52 : decode cX12_drawYear 52 = .ok (.istore 4, 2) := by decide +kernel
theorem dX12_drawYear_54 : decode cX12_drawYear 54 = .ok (.aload_n 0, 1) := by decide +kernel
theorem dX12_drawYear_55 : decode cX12_drawYear 55 = .ok (.iload_n 1, 1) := by decide +kernel
theorem dX12_drawYear_56 : decode cX12_drawYear 56 = .ok (.iload_n 3, 1) := by decide +kernel
theorem dX12_drawYear_57 : decode cX12_drawYear 57 = .ok (.iload 4, 2) := by decide +kernel
theorem dX12_drawYear_59 : decode cX12_drawYear 59 = .ok (.invokevirtual 346, 3) := by decide +kernel
theorem dX12_drawYear_62 : decode cX12_drawYear 62 = .ok (.ifCond .eq 23, 3) := by decide +kernel
theorem dX12_drawYear_65 : decode cX12_drawYear 65 = .ok (.aload_n 0, 1) := by decide +kernel
theorem dX12_drawYear_66 : decode cX12_drawYear 66 = .ok (.iload_n 1, 1) := by decide +kernel
theorem dX12_drawYear_67 : decode cX12_drawYear 67 = .ok (.iload_n 3, 1) := by decide +kernel
theorem dX12_drawYear_68 : decode cX12_drawYear 68 = .ok (.iload 4, 2) := by decide +kernel
theorem dX12_drawYear_70 : decode cX12_drawYear 70 = .ok (.invokevirtual 361, 3) := by decide +kernel
theorem dX12_drawYear_73 : decode cX12_drawYear 73 = .ok (.ifCond .ne 12, 3) := by decide +kernel
theorem dX12_drawYear_76 : decode cX12_drawYear 76 = .ok (.aload_n 0, 1) := by decide +kernel
theorem dX12_drawYear_77 : decode cX12_drawYear 77 = .ok (.iload_n 1, 1) := by decide +kernel
theorem dX12_drawYear_78 : decode cX12_drawYear 78 = .ok (.iload_n 2, 1) := by decide +kernel
theorem dX12_drawYear_79 : decode cX12_drawYear 79 = .ok (.iload_n 3, 1) := by decide +kernel
theorem dX12_drawYear_80 : decode cX12_drawYear 80 = .ok (.iload 4, 2) := by decide +kernel
theorem dX12_drawYear_82 : decode cX12_drawYear 82 = .ok (.invokevirtual 370, 3) := by decide +kernel
theorem dX12_drawYear_85 : decode cX12_drawYear 85 = .ok (.aload_n 0, 1) := by decide +kernel
theorem dX12_drawYear_86 : decode cX12_drawYear 86 = .ok (.bipush 10, 2) := by decide +kernel
theorem dX12_drawYear_88 : decode cX12_drawYear 88 = .ok (.invokevirtual 399, 3) := by decide +kernel
theorem dX12_drawYear_91 : decode cX12_drawYear 91 = .ok (.iconst 3, 1) := by decide +kernel
theorem dX12_drawYear_92 : decode cX12_drawYear 92 = .ok (.if_icmp .ge 19, 3) := by decide +kernel
theorem dX12_drawYear_95 : decode cX12_drawYear 95 = .ok (.aload_n 0, 1) := by decide +kernel
theorem dX12_drawYear_96 : decode cX12_drawYear 96 = .ok (.aload_n 0, 1) := by decide +kernel
theorem dX12_drawYear_97 : decode cX12_drawYear 97 = .ok (.aload_n 0, 1) := by decide +kernel
theorem dX12_drawYear_98 : decode cX12_drawYear 98 = .ok (.getfield 46, 3) := by decide +kernel
theorem dX12_drawYear_101 : decode cX12_drawYear 101 = .ok (.iconst 1, 1) := by decide +kernel
theorem dX12_drawYear_102 : decode cX12_drawYear 102 = .ok (.iaload, 1) := by decide +kernel
theorem dX12_drawYear_103 : decode cX12_drawYear 103 = .ok (.invokevirtual 399, 3) := by decide +kernel
theorem dX12_drawYear_106 : decode cX12_drawYear 106 = .ok (.iconst 2, 1) := by decide +kernel
theorem dX12_drawYear_107 : decode cX12_drawYear 107 = .ok (.invokevirtual 382, 3) := by decide +kernel
theorem dX12_drawYear_110 : decode cX12_drawYear 110 = .ok (.pop, 1) := by decide +kernel
theorem dX12_drawYear_111 : decode cX12_drawYear 111 = .ok (.return_, 1) := by decide +kernel
set_option maxRecDepth 20000 in
def kX12_drawYear_0 (g : sk_G) (d ck sk : Nat) (Q : sk_P) : sk_K := o_aload 0 (o_i (10) (o_invT (g, d, ck, sk, xX12_drawYear, Q) 2 1 12 (fun Q => kX12_draw_0 g (d - 1) 0 0 Q) (o_aload 0 (o_getf 12 31 (o_icge (sk_B (g, d, ck, sk, xX12_drawYear, Q) 85) (o_aload 0 (o_getf 12 27 (o_ifle (sk_B (g, d, ck, sk, xX12_drawYear, Q) 85) (o_aload 0 (o_aload 0 (o_getf 12 27 (o_invT (g, d, ck, sk, xX12_drawYear, Q) 2 1 12 (fun Q => kX12_draw_0 g (d - 1) 0 0 Q) (o_istore 1 (o_aload 0 (o_aload 0 (o_getf 12 22 (o_invT (g, d, ck, sk, xX12_drawYear, Q) 2 1 12 (fun Q => kX12_draw_0 g (d - 1) 0 0 Q) (o_istore 2 (o_aload 0 (o_aload 0 (o_getf 12 23 (o_invT (g, d, ck, sk, xX12_drawYear, Q) 2 1 12 (fun Q => kX12_draw_0 g (d - 1) 0 0 Q) (o_istore 3 (o_aload 0 (o_i (4) (o_invT (g, d, ck, sk, xX12_drawYear, Q) 2 1 12 (fun Q => kX12_draw_0 g (d - 1) 0 0 Q) (o_istore 4 (o_aload 0 (o_iload 1 (o_iload 3 (o_iload 4 (o_invB (g, d, ck, sk, xX12_drawYear, Q) xX12_doesAt 3 12 0 0 (o_ifeq (sk_B (g, d, ck, sk, xX12_drawYear, Q) 85) (o_aload 0 (o_iload 1 (o_iload 3 (o_iload 4 (o_invB (g, d, ck, sk, xX12_drawYear, Q) xX12_isFull 3 12 0 0 (o_ifne (sk_B (g, d, ck, sk, xX12_drawYear, Q) 85) (o_aload 0 (o_iload 1 (o_iload 2 (o_iload 3 (o_iload 4 (o_invB (g, d, ck, sk, xX12_drawYear, Q) xX12_writeNow 4 12 0 0 (sk_B (g, d, ck, sk, xX12_drawYear, Q) 85))))))))))))))))))))))))))))))))))))))))))))))
set_option maxRecDepth 20000 in
theorem tX12_drawYear_0 {g : sk_G} {d ck sk : Nat} {Q : sk_P} : sk_S (g, d, ck, sk, xX12_drawYear, Q) 0 (kX12_drawYear_0 g d ck sk Q) := s_aload_n dX12_drawYear_0 rfl (s_bipush dX12_drawYear_1 rfl (s_invT (X := xX12_draw) (ci := 12) (T := TX12) (N := 49) (K := (fun Q => kX12_draw_0 g (d - 1) 0 0 Q)) (fun _ => tX12_draw_0) rfl dX12_drawYear_3 m_X12_draw rfl (by decide) qm_X12_399 qi_X12_draw qe_X12_draw (s_aload_n dX12_drawYear_6 rfl (s_getf (ci := 12) (j := 31) (C := RX12) (T := TX12) (N := 49) dX12_drawYear_7 rfl (by decide) (by decide) qf_X12_71 (s_icge (tgt := 85) dX12_drawYear_10 (by decide) (sk_id) (s_aload_n dX12_drawYear_13 rfl (s_getf (ci := 12) (j := 27) (C := RX12) (T := TX12) (N := 49) dX12_drawYear_14 rfl (by decide) (by decide) qf_X12_292 (s_ifle (tgt := 85) dX12_drawYear_17 (by decide) (sk_id) (s_aload_n dX12_drawYear_20 rfl (s_aload_n dX12_drawYear_21 rfl (s_getf (ci := 12) (j := 27) (C := RX12) (T := TX12) (N := 49) dX12_drawYear_22 rfl (by decide) (by decide) qf_X12_292 (s_invT (X := xX12_draw) (ci := 12) (T := TX12) (N := 49) (K := (fun Q => kX12_draw_0 g (d - 1) 0 0 Q)) (fun _ => tX12_draw_0) rfl dX12_drawYear_25 m_X12_draw rfl (by decide) qm_X12_399 qi_X12_draw qe_X12_draw (s_istore_n dX12_drawYear_28 rfl (by decide : 1 < 5) (s_aload_n dX12_drawYear_29 rfl (s_aload_n dX12_drawYear_30 rfl (s_getf (ci := 12) (j := 22) (C := RX12) (T := TX12) (N := 49) dX12_drawYear_31 rfl (by decide) (by decide) qf_X12_270 (s_invT (X := xX12_draw) (ci := 12) (T := TX12) (N := 49) (K := (fun Q => kX12_draw_0 g (d - 1) 0 0 Q)) (fun _ => tX12_draw_0) rfl dX12_drawYear_34 m_X12_draw rfl (by decide) qm_X12_399 qi_X12_draw qe_X12_draw (s_istore_n dX12_drawYear_37 rfl (by decide : 2 < 5) (s_aload_n dX12_drawYear_38 rfl (s_aload_n dX12_drawYear_39 rfl (s_getf (ci := 12) (j := 23) (C := RX12) (T := TX12) (N := 49) dX12_drawYear_40 rfl (by decide) (by decide) qf_X12_273 (s_invT (X := xX12_draw) (ci := 12) (T := TX12) (N := 49) (K := (fun Q => kX12_draw_0 g (d - 1) 0 0 Q)) (fun _ => tX12_draw_0) rfl dX12_drawYear_43 m_X12_draw rfl (by decide) qm_X12_399 qi_X12_draw qe_X12_draw (s_istore_n dX12_drawYear_46 rfl (by decide : 3 < 5) (s_aload_n dX12_drawYear_47 rfl (s_iconst dX12_drawYear_48 (s_invT (X := xX12_draw) (ci := 12) (T := TX12) (N := 49) (K := (fun Q => kX12_draw_0 g (d - 1) 0 0 Q)) (fun _ => tX12_draw_0) rfl dX12_drawYear_49 m_X12_draw rfl (by decide) qm_X12_399 qi_X12_draw qe_X12_draw (s_istore dX12_drawYear_52 (by decide : 4 < 5) (s_aload_n dX12_drawYear_54 rfl (s_iload_n dX12_drawYear_55 rfl (s_iload_n dX12_drawYear_56 rfl (s_iload dX12_drawYear_57 (s_invB (w' := (g, d, ck, sk, xX12_drawYear, Q)) (ci := 12) (ck := 0) (sk := 0) (T := TX12) (N := 49) dX12_drawYear_59 m_X12_doesAt rfl (by decide) qm_X12_346 qi_X12_doesAt qe_X12_doesAt rfl (s_ifeq (tgt := 85) dX12_drawYear_62 (by decide) (sk_id) (s_aload_n dX12_drawYear_65 rfl (s_iload_n dX12_drawYear_66 rfl (s_iload_n dX12_drawYear_67 rfl (s_iload dX12_drawYear_68 (s_invB (w' := (g, d, ck, sk, xX12_drawYear, Q)) (ci := 12) (ck := 0) (sk := 0) (T := TX12) (N := 49) dX12_drawYear_70 m_X12_isFull rfl (by decide) qm_X12_361 qi_X12_isFull qe_X12_isFull rfl (s_ifne (tgt := 85) dX12_drawYear_73 (by decide) (sk_id) (s_aload_n dX12_drawYear_76 rfl (s_iload_n dX12_drawYear_77 rfl (s_iload_n dX12_drawYear_78 rfl (s_iload_n dX12_drawYear_79 rfl (s_iload dX12_drawYear_80 (s_invB (w' := (g, d, ck, sk, xX12_drawYear, Q)) (ci := 12) (ck := 0) (sk := 0) (T := TX12) (N := 49) dX12_drawYear_82 m_X12_writeNow rfl (by decide) qm_X12_370 qi_X12_writeNow qe_X12_writeNow rfl (sk_id))))))))))))))))))))))))))))))))))))))))))))))
set_option maxRecDepth 20000 in
def kX12_drawYear_85 (g : sk_G) (d ck sk : Nat) (Q : sk_P) : sk_K := o_aload 0 (o_i (10) (o_invT (g, d, ck, sk, xX12_drawYear, Q) 2 1 12 (fun Q => kX12_draw_0 g (d - 1) 0 0 Q) (o_i (3) (o_icge (o_ret (g, d, ck, sk, xX12_drawYear, Q)) (o_aload 0 (o_aload 0 (o_aload 0 (o_getf 12 20 (o_i (1) (o_iaload (o_invT (g, d, ck, sk, xX12_drawYear, Q) 2 1 12 (fun Q => kX12_draw_0 g (d - 1) 0 0 Q) (o_i (2) (o_invB (g, d, ck, sk, xX12_drawYear, Q) xX12_scrapeNow 2 12 0 0 (o_pop (o_ret (g, d, ck, sk, xX12_drawYear, Q))))))))))))))))
set_option maxRecDepth 20000 in
theorem tX12_drawYear_85 {g : sk_G} {d ck sk : Nat} {Q : sk_P} : sk_S (g, d, ck, sk, xX12_drawYear, Q) 85 (kX12_drawYear_85 g d ck sk Q) := s_aload_n dX12_drawYear_85 rfl (s_bipush dX12_drawYear_86 rfl (s_invT (X := xX12_draw) (ci := 12) (T := TX12) (N := 49) (K := (fun Q => kX12_draw_0 g (d - 1) 0 0 Q)) (fun _ => tX12_draw_0) rfl dX12_drawYear_88 m_X12_draw rfl (by decide) qm_X12_399 qi_X12_draw qe_X12_draw (s_iconst dX12_drawYear_91 (s_icge (tgt := 111) dX12_drawYear_92 (by decide) (s_ret dX12_drawYear_111 rfl) (s_aload_n dX12_drawYear_95 rfl (s_aload_n dX12_drawYear_96 rfl (s_aload_n dX12_drawYear_97 rfl (s_getf (ci := 12) (j := 20) (C := RX12) (T := TX12) (N := 49) dX12_drawYear_98 rfl (by decide) (by decide) qf_X12_46 (s_iconst dX12_drawYear_101 (s_iaload dX12_drawYear_102 (s_invT (X := xX12_draw) (ci := 12) (T := TX12) (N := 49) (K := (fun Q => kX12_draw_0 g (d - 1) 0 0 Q)) (fun _ => tX12_draw_0) rfl dX12_drawYear_103 m_X12_draw rfl (by decide) qm_X12_399 qi_X12_draw qe_X12_draw (s_iconst dX12_drawYear_106 (s_invB (w' := (g, d, ck, sk, xX12_drawYear, Q)) (ci := 12) (ck := 0) (sk := 0) (T := TX12) (N := 49) dX12_drawYear_107 m_X12_scrapeNow rfl (by decide) qm_X12_382 qi_X12_scrapeNow qe_X12_scrapeNow rfl (s_pop dX12_drawYear_110 (s_ret dX12_drawYear_111 rfl)))))))))))))))
theorem dX12_status_0 : decode cX12_status 0 = .ok (.iload_n 1, 1) := by decide +kernel
theorem dX12_status_1 : decode cX12_status 1 = .ok (.iconst 0, 1) := by decide +kernel
theorem dX12_status_2 : decode cX12_status 2 = .ok (.iconst 4, 1) := by decide +kernel
theorem dX12_status_3 : decode cX12_status 3 = .ok (.invokestatic 224, 3) := by decide +kernel
theorem dX12_status_6 : decode cX12_status 6 = .ok (.ifCond .eq 12, 3) := by decide +kernel
theorem dX12_status_9 : decode cX12_status 9 = .ok (.aload_n 0, 1) := by decide +kernel
theorem dX12_status_10 : decode cX12_status 10 = .ok (.getfield 64, 3) := by decide +kernel
theorem dX12_status_13 : decode cX12_status 13 = .ok (.iload_n 1, 1) := by decide +kernel
theorem dX12_status_14 : decode cX12_status 14 = .ok (.iaload, 1) := by decide +kernel
theorem dX12_status_15 : decode cX12_status 15 = .ok (.goto 4, 3) := by decide +kernel
theorem dX12_status_18 : decode cX12_status 18 = .ok (.iconst (-1), 1) := by decide +kernel
theorem dX12_status_19 : decode cX12_status 19 = .ok (.ireturn, 1) := by decide +kernel
set_option maxRecDepth 20000 in
def kX12_status_0 (g : sk_G) (d ck sk : Nat) (Q : sk_P) : sk_K := o_iload 1 (o_i (0) (o_i (4) (o_stcT (g, d, ck, sk, xX12_status, Q) 3 3 (fun Q => kX12_in_0 g (d - 1) 0 0 Q) (o_ifeq (o_i (-1) (o_iret (g, d, ck, sk, xX12_status, Q))) (o_aload 0 (o_getf 12 29 (o_iload 1 (o_iaload (o_iret (g, d, ck, sk, xX12_status, Q))))))))))
set_option maxRecDepth 20000 in
theorem tX12_status_0 {g : sk_G} {d ck sk : Nat} {Q : sk_P} : sk_S (g, d, ck, sk, xX12_status, Q) 0 (kX12_status_0 g d ck sk Q) := s_iload_n dX12_status_0 rfl (s_iconst dX12_status_1 (s_iconst dX12_status_2 (s_stcT (X := xX12_in) (K := (fun Q => kX12_in_0 g (d - 1) 0 0 Q)) (fun _ => tX12_in_0) rfl dX12_status_3 m_X12_in qm_X12_224 qs_X12_in (s_ifeq (tgt := 18) dX12_status_6 (by decide) (s_iconst dX12_status_18 (s_iret dX12_status_19 rfl)) (s_aload_n dX12_status_9 rfl (s_getf (ci := 12) (j := 29) (C := RX12) (T := TX12) (N := 49) dX12_status_10 rfl (by decide) (by decide) qf_X12_64 (s_iload_n dX12_status_13 rfl (s_iaload dX12_status_14 (s_goto (tgt := 19) dX12_status_15 (by decide) (s_iret dX12_status_19 rfl))))))))))
theorem dX12_undo_0 : decode cX12_undo 0 = .ok (.aload_n 0, 1) := by decide +kernel
theorem dX12_undo_1 : decode cX12_undo 1 = .ok (.getfield 279, 3) := by decide +kernel
theorem dX12_undo_4 : decode cX12_undo 4 = .ok (.ifCond .ne 5, 3) := by decide +kernel
theorem dX12_undo_7 : decode cX12_undo 7 = .ok (.iconst (-1), 1) := by decide +kernel
theorem dX12_undo_8 : decode cX12_undo 8 = .ok (.ireturn, 1) := by decide +kernel
theorem dX12_undo_9 : decode cX12_undo 9 = .ok (.aload_n 0, 1) := by decide +kernel
theorem dX12_undo_10 : decode cX12_undo 10 = .ok (.dup, 1) := by decide +kernel
theorem dX12_undo_11 : decode cX12_undo 11 = .ok (.getfield 279, 3) := by decide +kernel
theorem dX12_undo_14 : decode cX12_undo 14 = .ok (.iconst 1, 1) := by decide +kernel
theorem dX12_undo_15 : decode cX12_undo 15 = .ok (.isub, 1) := by decide +kernel
theorem dX12_undo_16 : decode cX12_undo 16 = .ok (.putfield 279, 3) := by decide +kernel
theorem dX12_undo_19 : decode cX12_undo 19 = .ok (.iconst 0, 1) := by decide +kernel
theorem dX12_undo_20 : decode cX12_undo 20 = .ok (.istore_n 1, 1) := by decide +kernel
theorem dX12_undo_21 : decode cX12_undo 21 = .ok (.iload_n 1, 1) := by decide +kernel
theorem dX12_undo_22 : decode cX12_undo 22 = .ok (.sipush 943, 3) := by decide +kernel
theorem dX12_undo_25 : decode cX12_undo 25 = .ok (.if_icmp .ge 30, 3) := by decide +kernel
theorem dX12_undo_28 : decode cX12_undo 28 = .ok (.aload_n 0, 1) := by decide +kernel
theorem dX12_undo_29 : decode cX12_undo 29 = .ok (.getfield 61, 3) := by decide +kernel
theorem dX12_undo_32 : decode cX12_undo 32 = .ok (.iload_n 1, 1) := by decide +kernel
theorem dX12_undo_33 : decode cX12_undo 33 = .ok (.aload_n 0, 1) := by decide +kernel
theorem dX12_undo_34 : decode cX12_undo 34 = .ok (.getfield 75, 3) := by decide +kernel
theorem dX12_undo_37 : decode cX12_undo 37 = .ok (.sipush 943, 3) := by decide +kernel
theorem dX12_undo_40 : decode cX12_undo 40 = .ok (.aload_n 0, 1) := by decide +kernel
theorem dX12_undo_41 : decode cX12_undo 41 = .ok (.getfield 279, 3) := by decide +kernel
theorem dX12_undo_44 : decode cX12_undo 44 = .ok (.imul, 1) := by decide +kernel
theorem dX12_undo_45 : decode cX12_undo 45 = .ok (.iload_n 1, 1) := by decide +kernel
theorem dX12_undo_46 : decode cX12_undo 46 = .ok (.iadd, 1) := by decide +kernel
theorem dX12_undo_47 : decode cX12_undo 47 = .ok (.iaload, 1) := by decide +kernel
theorem dX12_undo_48 : decode cX12_undo 48 = .ok (.iastore, 1) := by decide +kernel
theorem dX12_undo_49 : decode cX12_undo 49 = .ok (.iinc 1 1, 3) := by decide +kernel
theorem dX12_undo_52 : decode cX12_undo 52 = .ok (.goto (-31), 3) := by decide +kernel
theorem dX12_undo_55 : decode cX12_undo 55 = .ok (.aload_n 0, 1) := by decide +kernel
theorem dX12_undo_56 : decode cX12_undo 56 = .ok (.getfield 279, 3) := by decide +kernel
theorem dX12_undo_59 : decode cX12_undo 59 = .ok (.ireturn, 1) := by decide +kernel
def kX12_undo_0 (g : sk_G) (d ck sk : Nat) (Q : sk_P) : sk_K := o_aload 0 (o_getf 12 33 (o_ifne (o_aload 0 (o_dup (o_getf 12 33 (o_i (1) (o_isub (o_puti 12 33 (o_i (0) (o_istore 1 (sk_B (g, d, ck, sk, xX12_undo, Q) 21))))))))) (o_i (-1) (o_iret (g, d, ck, sk, xX12_undo, Q)))))
theorem tX12_undo_0 {g : sk_G} {d ck sk : Nat} {Q : sk_P} : sk_S (g, d, ck, sk, xX12_undo, Q) 0 (kX12_undo_0 g d ck sk Q) := s_aload_n dX12_undo_0 rfl (s_getf (ci := 12) (j := 33) (C := RX12) (T := TX12) (N := 49) dX12_undo_1 rfl (by decide) (by decide) qf_X12_279 (s_ifne (tgt := 9) dX12_undo_4 (by decide) (s_aload_n dX12_undo_9 rfl (s_dup dX12_undo_10 (s_getf (ci := 12) (j := 33) (C := RX12) (T := TX12) (N := 49) dX12_undo_11 rfl (by decide) (by decide) qf_X12_279 (s_iconst dX12_undo_14 (s_isub dX12_undo_15 (s_puti (ci := 12) (j := 33) (C := RX12) (T := TX12) (N := 49) dX12_undo_16 rfl (by decide) (by decide) rfl (tyX12_ok 33 (by decide)) qf_X12_279 (s_iconst dX12_undo_19 (s_istore_n dX12_undo_20 rfl (by decide : 1 < 2) (sk_id))))))))) (s_iconst dX12_undo_7 (s_iret dX12_undo_8 rfl))))
set_option maxRecDepth 20000 in
def kX12_undo_21 (g : sk_G) (d ck sk : Nat) (Q : sk_P) : sk_K := o_iload 1 (o_i (943) (o_icge (o_aload 0 (o_getf 12 33 (o_iret (g, d, ck, sk, xX12_undo, Q)))) (o_aload 0 (o_getf 12 28 (o_iload 1 (o_aload 0 (o_getf 12 32 (o_i (943) (o_aload 0 (o_getf 12 33 (o_imul (o_iload 1 (o_iadd (o_iaload (o_iastore (o_iinc 1 (1) (sk_B (g, d, ck, sk, xX12_undo, Q) 21)))))))))))))))))
set_option maxRecDepth 20000 in
theorem tX12_undo_21 {g : sk_G} {d ck sk : Nat} {Q : sk_P} : sk_S (g, d, ck, sk, xX12_undo, Q) 21 (kX12_undo_21 g d ck sk Q) := s_iload_n dX12_undo_21 rfl (s_sipush dX12_undo_22 rfl (s_icge (tgt := 55) dX12_undo_25 (by decide) (s_aload_n dX12_undo_55 rfl (s_getf (ci := 12) (j := 33) (C := RX12) (T := TX12) (N := 49) dX12_undo_56 rfl (by decide) (by decide) qf_X12_279 (s_iret dX12_undo_59 rfl))) (s_aload_n dX12_undo_28 rfl (s_getf (ci := 12) (j := 28) (C := RX12) (T := TX12) (N := 49) dX12_undo_29 rfl (by decide) (by decide) qf_X12_61 (s_iload_n dX12_undo_32 rfl (s_aload_n dX12_undo_33 rfl (s_getf (ci := 12) (j := 32) (C := RX12) (T := TX12) (N := 49) dX12_undo_34 rfl (by decide) (by decide) qf_X12_75 (s_sipush dX12_undo_37 rfl (s_aload_n dX12_undo_40 rfl (s_getf (ci := 12) (j := 33) (C := RX12) (T := TX12) (N := 49) dX12_undo_41 rfl (by decide) (by decide) qf_X12_279 (s_imul dX12_undo_44 (s_iload_n dX12_undo_45 rfl (s_iadd dX12_undo_46 (s_iaload dX12_undo_47 (s_iastore dX12_undo_48 (s_iinc dX12_undo_49 (by decide : 1 < 2) (s_goto (tgt := 21) dX12_undo_52 (by decide) (sk_id))))))))))))))))))
theorem dX12_log_0 : decode cX12_log 0 = .ok (.iload_n 1, 1) := by decide +kernel
theorem dX12_log_1 : decode cX12_log 1 = .ok (.iconst 0, 1) := by decide +kernel
theorem dX12_log_2 : decode cX12_log 2 = .ok (.aload_n 0, 1) := by decide +kernel
theorem dX12_log_3 : decode cX12_log 3 = .ok (.getfield 61, 3) := by decide +kernel
theorem dX12_log_6 : decode cX12_log 6 = .ok (.sipush 762, 3) := by decide +kernel
theorem dX12_log_9 : decode cX12_log 9 = .ok (.iaload, 1) := by decide +kernel
theorem dX12_log_10 : decode cX12_log 10 = .ok (.iconst 1, 1) := by decide +kernel
theorem dX12_log_11 : decode cX12_log 11 = .ok (.isub, 1) := by decide +kernel
theorem dX12_log_12 : decode cX12_log 12 = .ok (.invokestatic 224, 3) := by decide +kernel
theorem dX12_log_15 : decode cX12_log 15 = .ok (.ifCond .eq 40, 3) := by decide +kernel
theorem dX12_log_18 : decode cX12_log 18 = .ok (.iload_n 2, 1) := by decide +kernel
theorem dX12_log_19 : decode cX12_log 19 = .ok (.iconst 0, 1) := by decide +kernel
theorem dX12_log_20 : decode cX12_log 20 = .ok (.iconst 2, 1) := by decide +kernel
theorem dX12_log_21 : decode cX12_log 21 = .ok (.invokestatic 224, 3) := by decide +kernel
theorem dX12_log_24 : decode cX12_log 24 = .ok (.ifCond .eq 31, 3) := by decide +kernel
theorem dX12_log_27 : decode cX12_log 27 = .ok (.aload_n 0, 1) := by decide +kernel
theorem dX12_log_28 : decode cX12_log 28 = .ok (.getfield 61, 3) := by decide +kernel
theorem dX12_log_31 : decode cX12_log 31 = .ok (.sipush 763, 3) := by decide +kernel
theorem dX12_log_34 : decode cX12_log 34 = .ok (.iconst 3, 1) := by decide +kernel
theorem dX12_log_35 : decode cX12_log 35 = .ok (.aload_n 0, 1) := by decide +kernel
theorem dX12_log_36 : decode cX12_log 36 = .ok (.getfield 61, 3) := by decide +kernel
theorem dX12_log_39 : decode cX12_log 39 = .ok (.sipush 762, 3) := by decide +kernel
theorem dX12_log_42 : decode cX12_log 42 = .ok (.iaload, 1) := by decide +kernel
theorem dX12_log_43 : decode cX12_log 43 = .ok (.iconst 1, 1) := by decide +kernel
theorem dX12_log_44 : decode cX12_log 44 = .ok (.isub, 1) := by decide +kernel
theorem dX12_log_45 : decode cX12_log 45 = .ok (.iload_n 1, 1) := by decide +kernel
theorem dX12_log_46 : decode cX12_log 46 = .ok (.isub, 1) := by decide +kernel
theorem dX12_log_47 : decode cX12_log 47 = .ok (.imul, 1) := by decide +kernel
theorem dX12_log_48 : decode cX12_log 48 = .ok (.iadd, 1) := by decide +kernel
theorem dX12_log_49 : decode cX12_log 49 = .ok (.iload_n 2, 1) := by decide +kernel
theorem dX12_log_50 : decode cX12_log 50 = .ok (.iadd, 1) := by decide +kernel
theorem dX12_log_51 : decode cX12_log 51 = .ok (.iaload, 1) := by decide +kernel
theorem dX12_log_52 : decode cX12_log 52 = .ok (.goto 4, 3) := by decide +kernel
theorem dX12_log_55 : decode cX12_log 55 = .ok (.iconst (-1), 1) := by decide +kernel
theorem dX12_log_56 : decode cX12_log 56 = .ok (.ireturn, 1) := by decide +kernel
set_option maxRecDepth 20000 in
def kX12_log_0 (g : sk_G) (d ck sk : Nat) (Q : sk_P) : sk_K := o_iload 1 (o_i (0) (o_aload 0 (o_getf 12 28 (o_i (762) (o_iaload (o_i (1) (o_isub (o_stcT (g, d, ck, sk, xX12_log, Q) 3 3 (fun Q => kX12_in_0 g (d - 1) 0 0 Q) (o_ifeq (o_i (-1) (o_iret (g, d, ck, sk, xX12_log, Q))) (o_iload 2 (o_i (0) (o_i (2) (o_stcT (g, d, ck, sk, xX12_log, Q) 3 3 (fun Q => kX12_in_0 g (d - 1) 0 0 Q) (o_ifeq (o_i (-1) (o_iret (g, d, ck, sk, xX12_log, Q))) (o_aload 0 (o_getf 12 28 (o_i (763) (o_i (3) (o_aload 0 (o_getf 12 28 (o_i (762) (o_iaload (o_i (1) (o_isub (o_iload 1 (o_isub (o_imul (o_iadd (o_iload 2 (o_iadd (o_iaload (o_iret (g, d, ck, sk, xX12_log, Q)))))))))))))))))))))))))))))))))
set_option maxRecDepth 20000 in
theorem tX12_log_0 {g : sk_G} {d ck sk : Nat} {Q : sk_P} : sk_S (g, d, ck, sk, xX12_log, Q) 0 (kX12_log_0 g d ck sk Q) := s_iload_n dX12_log_0 rfl (s_iconst dX12_log_1 (s_aload_n dX12_log_2 rfl (s_getf (ci := 12) (j := 28) (C := RX12) (T := TX12) (N := 49) dX12_log_3 rfl (by decide) (by decide) qf_X12_61 (s_sipush dX12_log_6 rfl (s_iaload dX12_log_9 (s_iconst dX12_log_10 (s_isub dX12_log_11 (s_stcT (X := xX12_in) (K := (fun Q => kX12_in_0 g (d - 1) 0 0 Q)) (fun _ => tX12_in_0) rfl dX12_log_12 m_X12_in qm_X12_224 qs_X12_in (s_ifeq (tgt := 55) dX12_log_15 (by decide) (s_iconst dX12_log_55 (s_iret dX12_log_56 rfl)) (s_iload_n dX12_log_18 rfl (s_iconst dX12_log_19 (s_iconst dX12_log_20 (s_stcT (X := xX12_in) (K := (fun Q => kX12_in_0 g (d - 1) 0 0 Q)) (fun _ => tX12_in_0) rfl dX12_log_21 m_X12_in qm_X12_224 qs_X12_in (s_ifeq (tgt := 55) dX12_log_24 (by decide) (s_iconst dX12_log_55 (s_iret dX12_log_56 rfl)) (s_aload_n dX12_log_27 rfl (s_getf (ci := 12) (j := 28) (C := RX12) (T := TX12) (N := 49) dX12_log_28 rfl (by decide) (by decide) qf_X12_61 (s_sipush dX12_log_31 rfl (s_iconst dX12_log_34 (s_aload_n dX12_log_35 rfl (s_getf (ci := 12) (j := 28) (C := RX12) (T := TX12) (N := 49) dX12_log_36 rfl (by decide) (by decide) qf_X12_61 (s_sipush dX12_log_39 rfl (s_iaload dX12_log_42 (s_iconst dX12_log_43 (s_isub dX12_log_44 (s_iload_n dX12_log_45 rfl (s_isub dX12_log_46 (s_imul dX12_log_47 (s_iadd dX12_log_48 (s_iload_n dX12_log_49 rfl (s_iadd dX12_log_50 (s_iaload dX12_log_51 (s_goto (tgt := 56) dX12_log_52 (by decide) (s_iret dX12_log_56 rfl)))))))))))))))))))))))))))))))))
theorem dX12_shows_0 : decode cX12_shows 0 = .ok (.aload_n 0, 1) := by decide +kernel
theorem dX12_shows_1 : decode cX12_shows 1 = .ok (.iload_n 1, 1) := by decide +kernel
theorem dX12_shows_2 : decode cX12_shows 2 = .ok (.invokevirtual 355, 3) := by decide +kernel
theorem dX12_shows_5 : decode cX12_shows 5 = .ok (.ifCond .eq 11, 3) := by decide +kernel
theorem dX12_shows_8 : decode cX12_shows 8 = .ok (.aload_n 0, 1) := by decide +kernel
theorem dX12_shows_9 : decode cX12_shows 9 = .ok (.iload_n 1, 1) := by decide +kernel
theorem dX12_shows_10 : decode cX12_shows 10 = .ok (.invokevirtual 307, 3) := by decide +kernel
theorem dX12_shows_13 : decode cX12_shows 13 = .ok (.goto 4, 3) := by decide +kernel
theorem dX12_shows_16 : decode cX12_shows 16 = .ok (.iconst (-1), 1) := by decide +kernel
theorem dX12_shows_17 : decode cX12_shows 17 = .ok (.ireturn, 1) := by decide +kernel
set_option maxRecDepth 20000 in
def kX12_shows_0 (g : sk_G) (d ck sk : Nat) (Q : sk_P) : sk_K := o_aload 0 (o_iload 1 (o_invT (g, d, ck, sk, xX12_shows, Q) 2 1 12 (fun Q => kX12_isCell_0 g (d - 1) 0 0 Q) (o_ifeq (o_i (-1) (o_iret (g, d, ck, sk, xX12_shows, Q))) (o_aload 0 (o_iload 1 (o_invB (g, d, ck, sk, xX12_shows, Q) xX12_showsAt 1 12 0 0 (o_iret (g, d, ck, sk, xX12_shows, Q))))))))
set_option maxRecDepth 20000 in
theorem tX12_shows_0 {g : sk_G} {d ck sk : Nat} {Q : sk_P} : sk_S (g, d, ck, sk, xX12_shows, Q) 0 (kX12_shows_0 g d ck sk Q) := s_aload_n dX12_shows_0 rfl (s_iload_n dX12_shows_1 rfl (s_invT (X := xX12_isCell) (ci := 12) (T := TX12) (N := 49) (K := (fun Q => kX12_isCell_0 g (d - 1) 0 0 Q)) (fun _ => tX12_isCell_0) rfl dX12_shows_2 m_X12_isCell rfl (by decide) qm_X12_355 qi_X12_isCell qe_X12_isCell (s_ifeq (tgt := 16) dX12_shows_5 (by decide) (s_iconst dX12_shows_16 (s_iret dX12_shows_17 rfl)) (s_aload_n dX12_shows_8 rfl (s_iload_n dX12_shows_9 rfl (s_invB (w' := (g, d, ck, sk, xX12_shows, Q)) (ci := 12) (ck := 0) (sk := 0) (T := TX12) (N := 49) dX12_shows_10 m_X12_showsAt rfl (by decide) qm_X12_307 qi_X12_showsAt qe_X12_showsAt rfl (s_goto (tgt := 17) dX12_shows_13 (by decide) (s_iret dX12_shows_17 rfl))))))))
theorem dX12_lamp_0 : decode cX12_lamp 0 = .ok (.aload_n 0, 1) := by decide +kernel
theorem dX12_lamp_1 : decode cX12_lamp 1 = .ok (.iload_n 1, 1) := by decide +kernel
theorem dX12_lamp_2 : decode cX12_lamp 2 = .ok (.invokevirtual 355, 3) := by decide +kernel
theorem dX12_lamp_5 : decode cX12_lamp 5 = .ok (.ifCond .eq 11, 3) := by decide +kernel
theorem dX12_lamp_8 : decode cX12_lamp 8 = .ok (.aload_n 0, 1) := by decide +kernel
theorem dX12_lamp_9 : decode cX12_lamp 9 = .ok (.iload_n 1, 1) := by decide +kernel
theorem dX12_lamp_10 : decode cX12_lamp 10 = .ok (.invokevirtual 304, 3) := by decide +kernel
theorem dX12_lamp_13 : decode cX12_lamp 13 = .ok (.goto 4, 3) := by decide +kernel
theorem dX12_lamp_16 : decode cX12_lamp 16 = .ok (.iconst (-1), 1) := by decide +kernel
theorem dX12_lamp_17 : decode cX12_lamp 17 = .ok (.ireturn, 1) := by decide +kernel
set_option maxRecDepth 20000 in
def kX12_lamp_0 (g : sk_G) (d ck sk : Nat) (Q : sk_P) : sk_K := o_aload 0 (o_iload 1 (o_invT (g, d, ck, sk, xX12_lamp, Q) 2 1 12 (fun Q => kX12_isCell_0 g (d - 1) 0 0 Q) (o_ifeq (o_i (-1) (o_iret (g, d, ck, sk, xX12_lamp, Q))) (o_aload 0 (o_iload 1 (o_invB (g, d, ck, sk, xX12_lamp, Q) xX12_lampAt 1 12 0 0 (o_iret (g, d, ck, sk, xX12_lamp, Q))))))))
set_option maxRecDepth 20000 in
theorem tX12_lamp_0 {g : sk_G} {d ck sk : Nat} {Q : sk_P} : sk_S (g, d, ck, sk, xX12_lamp, Q) 0 (kX12_lamp_0 g d ck sk Q) := s_aload_n dX12_lamp_0 rfl (s_iload_n dX12_lamp_1 rfl (s_invT (X := xX12_isCell) (ci := 12) (T := TX12) (N := 49) (K := (fun Q => kX12_isCell_0 g (d - 1) 0 0 Q)) (fun _ => tX12_isCell_0) rfl dX12_lamp_2 m_X12_isCell rfl (by decide) qm_X12_355 qi_X12_isCell qe_X12_isCell (s_ifeq (tgt := 16) dX12_lamp_5 (by decide) (s_iconst dX12_lamp_16 (s_iret dX12_lamp_17 rfl)) (s_aload_n dX12_lamp_8 rfl (s_iload_n dX12_lamp_9 rfl (s_invB (w' := (g, d, ck, sk, xX12_lamp, Q)) (ci := 12) (ck := 0) (sk := 0) (T := TX12) (N := 49) dX12_lamp_10 m_X12_lampAt rfl (by decide) qm_X12_304 qi_X12_lampAt qe_X12_lampAt rfl (s_goto (tgt := 17) dX12_lamp_13 (by decide) (s_iret dX12_lamp_17 rfl))))))))
theorem dX12_lampAt_0 : decode cX12_lampAt 0 = .ok (.iconst 0, 1) := by decide +kernel
theorem dX12_lampAt_1 : decode cX12_lampAt 1 = .ok (.istore_n 2, 1) := by decide +kernel
theorem dX12_lampAt_2 : decode cX12_lampAt 2 = .ok (.iload_n 2, 1) := by decide +kernel
theorem dX12_lampAt_3 : decode cX12_lampAt 3 = .ok (.aload_n 0, 1) := by decide +kernel
theorem dX12_lampAt_4 : decode cX12_lampAt 4 = .ok (.getfield 61, 3) := by decide +kernel
theorem dX12_lampAt_7 : decode cX12_lampAt 7 = .ok (.iconst 0, 1) := by decide +kernel
theorem dX12_lampAt_8 : decode cX12_lampAt 8 = .ok (.iload_n 1, 1) := by decide +kernel
theorem dX12_lampAt_9 : decode cX12_lampAt 9 = .ok (.iadd, 1) := by decide +kernel
theorem dX12_lampAt_10 : decode cX12_lampAt 10 = .ok (.iaload, 1) := by decide +kernel
theorem dX12_lampAt_11 : decode cX12_lampAt 11 = .ok (.if_icmp .ge 26, 3) := by decide +kernel
theorem dX12_lampAt_14 : decode cX12_lampAt 14 = .ok (.aload_n 0, 1) := by decide +kernel
theorem dX12_lampAt_15 : decode cX12_lampAt 15 = .ok (.iload_n 1, 1) := by decide +kernel
theorem dX12_lampAt_16 : decode cX12_lampAt 16 = .ok (.iload_n 2, 1) := by decide +kernel
theorem dX12_lampAt_17 : decode cX12_lampAt 17 = .ok (.invokevirtual 301, 3) := by decide +kernel
theorem dX12_lampAt_20 : decode cX12_lampAt 20 = .ok (.ifCond .eq 11, 3) := by decide +kernel
theorem dX12_lampAt_23 : decode cX12_lampAt 23 = .ok (.aload_n 0, 1) := by decide +kernel
theorem dX12_lampAt_24 : decode cX12_lampAt 24 = .ok (.iload_n 1, 1) := by decide +kernel
theorem dX12_lampAt_25 : decode cX12_lampAt 25 = .ok (.iload_n 2, 1) := by decide +kernel
theorem dX12_lampAt_26 : decode cX12_lampAt 26 = .ok (.iconst 0, 1) := by decide +kernel
theorem dX12_lampAt_27 : decode cX12_lampAt 27 = .ok (.invokevirtual 295, 3) := by decide +kernel
theorem dX12_lampAt_30 : decode cX12_lampAt 30 = .ok (.ireturn, 1) := by decide +kernel
theorem dX12_lampAt_31 : decode cX12_lampAt 31 = .ok (.iinc 2 1, 3) := by decide +kernel
theorem dX12_lampAt_34 : decode cX12_lampAt 34 = .ok (.goto (-32), 3) := by decide +kernel
theorem dX12_lampAt_37 : decode cX12_lampAt 37 = .ok (.bipush 26, 2) := by decide +kernel
theorem dX12_lampAt_39 : decode cX12_lampAt 39 = .ok (.ireturn, 1) := by decide +kernel
def kX12_lampAt_0 (g : sk_G) (d ck sk : Nat) (Q : sk_P) : sk_K := o_i (0) (o_istore 2 (sk_B (g, d, ck, sk, xX12_lampAt, Q) 2))
theorem tX12_lampAt_0 {g : sk_G} {d ck sk : Nat} {Q : sk_P} : sk_S (g, d, ck, sk, xX12_lampAt, Q) 0 (kX12_lampAt_0 g d ck sk Q) := s_iconst dX12_lampAt_0 (s_istore_n dX12_lampAt_1 rfl (by decide : 2 < 3) (sk_id))
set_option maxRecDepth 20000 in
def kX12_lampAt_2 (g : sk_G) (d ck sk : Nat) (Q : sk_P) : sk_K := o_iload 2 (o_aload 0 (o_getf 12 28 (o_i (0) (o_iload 1 (o_iadd (o_iaload (o_icge (o_i (26) (o_iret (g, d, ck, sk, xX12_lampAt, Q))) (o_aload 0 (o_iload 1 (o_iload 2 (o_invT (g, d, ck, sk, xX12_lampAt, Q) 3 2 12 (fun Q => kX12_isLegible_0 g (d - 1) 0 0 Q) (o_ifeq (o_iinc 2 (1) (sk_B (g, d, ck, sk, xX12_lampAt, Q) 2)) (o_aload 0 (o_iload 1 (o_iload 2 (o_i (0) (o_invT (g, d, ck, sk, xX12_lampAt, Q) 4 3 12 (fun Q => kX12_of_0 g (d - 1) 0 0 Q) (o_iret (g, d, ck, sk, xX12_lampAt, Q)))))))))))))))))))
set_option maxRecDepth 20000 in
theorem tX12_lampAt_2 {g : sk_G} {d ck sk : Nat} {Q : sk_P} : sk_S (g, d, ck, sk, xX12_lampAt, Q) 2 (kX12_lampAt_2 g d ck sk Q) := s_iload_n dX12_lampAt_2 rfl (s_aload_n dX12_lampAt_3 rfl (s_getf (ci := 12) (j := 28) (C := RX12) (T := TX12) (N := 49) dX12_lampAt_4 rfl (by decide) (by decide) qf_X12_61 (s_iconst dX12_lampAt_7 (s_iload_n dX12_lampAt_8 rfl (s_iadd dX12_lampAt_9 (s_iaload dX12_lampAt_10 (s_icge (tgt := 37) dX12_lampAt_11 (by decide) (s_bipush dX12_lampAt_37 rfl (s_iret dX12_lampAt_39 rfl)) (s_aload_n dX12_lampAt_14 rfl (s_iload_n dX12_lampAt_15 rfl (s_iload_n dX12_lampAt_16 rfl (s_invT (X := xX12_isLegible) (ci := 12) (T := TX12) (N := 49) (K := (fun Q => kX12_isLegible_0 g (d - 1) 0 0 Q)) (fun _ => tX12_isLegible_0) rfl dX12_lampAt_17 m_X12_isLegible rfl (by decide) qm_X12_301 qi_X12_isLegible qe_X12_isLegible (s_ifeq (tgt := 31) dX12_lampAt_20 (by decide) (s_iinc dX12_lampAt_31 (by decide : 2 < 3) (s_goto (tgt := 2) dX12_lampAt_34 (by decide) (sk_id))) (s_aload_n dX12_lampAt_23 rfl (s_iload_n dX12_lampAt_24 rfl (s_iload_n dX12_lampAt_25 rfl (s_iconst dX12_lampAt_26 (s_invT (X := xX12_of) (ci := 12) (T := TX12) (N := 49) (K := (fun Q => kX12_of_0 g (d - 1) 0 0 Q)) (fun _ => tX12_of_0) rfl dX12_lampAt_27 m_X12_of rfl (by decide) qm_X12_295 qi_X12_of qe_X12_of (s_iret dX12_lampAt_30 rfl))))))))))))))))))
theorem dX12_agrees_0 : decode cX12_agrees 0 = .ok (.aload_n 0, 1) := by decide +kernel
theorem dX12_agrees_1 : decode cX12_agrees 1 = .ok (.iload_n 1, 1) := by decide +kernel
theorem dX12_agrees_2 : decode cX12_agrees 2 = .ok (.iload_n 2, 1) := by decide +kernel
theorem dX12_agrees_3 : decode cX12_agrees 3 = .ok (.invokevirtual 408, 3) := by decide +kernel
theorem dX12_agrees_6 : decode cX12_agrees 6 = .ok (.ifCond .eq 22, 3) := by decide +kernel
theorem dX12_agrees_9 : decode cX12_agrees 9 = .ok (.iload_n 3, 1) := by decide +kernel
theorem dX12_agrees_10 : decode cX12_agrees 10 = .ok (.iconst 0, 1) := by decide +kernel
theorem dX12_agrees_11 : decode cX12_agrees 11 = .ok (.iconst 2, 1) := by decide +kernel
theorem dX12_agrees_12 : decode cX12_agrees 12 = .ok (.invokestatic 224, 3) := by decide +kernel
theorem dX12_agrees_15 : decode cX12_agrees 15 = .ok (.ifCond .eq 13, 3) := by decide +kernel
theorem dX12_agrees_18 : decode cX12_agrees 18 = .ok (.aload_n 0, 1) := by decide +kernel
theorem dX12_agrees_19 : decode cX12_agrees 19 = .ok (.iload_n 1, 1) := by decide +kernel
theorem dX12_agrees_20 : decode cX12_agrees 20 = .ok (.iload_n 2, 1) := by decide +kernel
theorem dX12_agrees_21 : decode cX12_agrees 21 = .ok (.iload_n 3, 1) := by decide +kernel
theorem dX12_agrees_22 : decode cX12_agrees 22 = .ok (.invokevirtual 411, 3) := by decide +kernel
theorem dX12_agrees_25 : decode cX12_agrees 25 = .ok (.goto 4, 3) := by decide +kernel
theorem dX12_agrees_28 : decode cX12_agrees 28 = .ok (.iconst (-1), 1) := by decide +kernel
theorem dX12_agrees_29 : decode cX12_agrees 29 = .ok (.ireturn, 1) := by decide +kernel
set_option maxRecDepth 20000 in
def kX12_agrees_0 (g : sk_G) (d ck sk : Nat) (Q : sk_P) : sk_K := o_aload 0 (o_iload 1 (o_iload 2 (o_invB (g, d, ck, sk, xX12_agrees, Q) xX12_isSpot 2 12 0 0 (o_ifeq (o_i (-1) (o_iret (g, d, ck, sk, xX12_agrees, Q))) (o_iload 3 (o_i (0) (o_i (2) (o_stcT (g, d, ck, sk, xX12_agrees, Q) 3 3 (fun Q => kX12_in_0 g (d - 1) 0 0 Q) (o_ifeq (o_i (-1) (o_iret (g, d, ck, sk, xX12_agrees, Q))) (o_aload 0 (o_iload 1 (o_iload 2 (o_iload 3 (o_invB (g, d, ck, sk, xX12_agrees, Q) xX12_manyWho 3 12 0 0 (o_iret (g, d, ck, sk, xX12_agrees, Q))))))))))))))))
set_option maxRecDepth 20000 in
theorem tX12_agrees_0 {g : sk_G} {d ck sk : Nat} {Q : sk_P} : sk_S (g, d, ck, sk, xX12_agrees, Q) 0 (kX12_agrees_0 g d ck sk Q) := s_aload_n dX12_agrees_0 rfl (s_iload_n dX12_agrees_1 rfl (s_iload_n dX12_agrees_2 rfl (s_invB (w' := (g, d, ck, sk, xX12_agrees, Q)) (ci := 12) (ck := 0) (sk := 0) (T := TX12) (N := 49) dX12_agrees_3 m_X12_isSpot rfl (by decide) qm_X12_408 qi_X12_isSpot qe_X12_isSpot rfl (s_ifeq (tgt := 28) dX12_agrees_6 (by decide) (s_iconst dX12_agrees_28 (s_iret dX12_agrees_29 rfl)) (s_iload_n dX12_agrees_9 rfl (s_iconst dX12_agrees_10 (s_iconst dX12_agrees_11 (s_stcT (X := xX12_in) (K := (fun Q => kX12_in_0 g (d - 1) 0 0 Q)) (fun _ => tX12_in_0) rfl dX12_agrees_12 m_X12_in qm_X12_224 qs_X12_in (s_ifeq (tgt := 28) dX12_agrees_15 (by decide) (s_iconst dX12_agrees_28 (s_iret dX12_agrees_29 rfl)) (s_aload_n dX12_agrees_18 rfl (s_iload_n dX12_agrees_19 rfl (s_iload_n dX12_agrees_20 rfl (s_iload_n dX12_agrees_21 rfl (s_invB (w' := (g, d, ck, sk, xX12_agrees, Q)) (ci := 12) (ck := 0) (sk := 0) (T := TX12) (N := 49) dX12_agrees_22 m_X12_manyWho rfl (by decide) qm_X12_411 qi_X12_manyWho qe_X12_manyWho rfl (s_goto (tgt := 29) dX12_agrees_25 (by decide) (s_iret dX12_agrees_29 rfl))))))))))))))))
theorem dX12_isSpot_0 : decode cX12_isSpot 0 = .ok (.aload_n 0, 1) := by decide +kernel
theorem dX12_isSpot_1 : decode cX12_isSpot 1 = .ok (.iload_n 1, 1) := by decide +kernel
theorem dX12_isSpot_2 : decode cX12_isSpot 2 = .ok (.invokevirtual 343, 3) := by decide +kernel
theorem dX12_isSpot_5 : decode cX12_isSpot 5 = .ok (.ifCond .eq 37, 3) := by decide +kernel
theorem dX12_isSpot_8 : decode cX12_isSpot 8 = .ok (.iload_n 2, 1) := by decide +kernel
theorem dX12_isSpot_9 : decode cX12_isSpot 9 = .ok (.iconst 0, 1) := by decide +kernel
theorem dX12_isSpot_10 : decode cX12_isSpot 10 = .ok (.iconst 4, 1) := by decide +kernel
theorem dX12_isSpot_11 : decode cX12_isSpot 11 = .ok (.aload_n 0, 1) := by decide +kernel
theorem dX12_isSpot_12 : decode cX12_isSpot 12 = .ok (.getfield 273, 3) := by decide +kernel
theorem dX12_isSpot_15 : decode cX12_isSpot 15 = .ok (.imul, 1) := by decide +kernel
theorem dX12_isSpot_16 : decode cX12_isSpot 16 = .ok (.iconst 1, 1) := by decide +kernel
theorem dX12_isSpot_17 : decode cX12_isSpot 17 = .ok (.isub, 1) := by decide +kernel
theorem dX12_isSpot_18 : decode cX12_isSpot 18 = .ok (.invokestatic 224, 3) := by decide +kernel
theorem dX12_isSpot_21 : decode cX12_isSpot 21 = .ok (.ifCond .eq 21, 3) := by decide +kernel
theorem dX12_isSpot_24 : decode cX12_isSpot 24 = .ok (.aload_n 0, 1) := by decide +kernel
theorem dX12_isSpot_25 : decode cX12_isSpot 25 = .ok (.iload_n 1, 1) := by decide +kernel
theorem dX12_isSpot_26 : decode cX12_isSpot 26 = .ok (.iload_n 2, 1) := by decide +kernel
theorem dX12_isSpot_27 : decode cX12_isSpot 27 = .ok (.iconst 4, 1) := by decide +kernel
theorem dX12_isSpot_28 : decode cX12_isSpot 28 = .ok (.idiv, 1) := by decide +kernel
theorem dX12_isSpot_29 : decode cX12_isSpot 29 = .ok (.iload_n 2, 1) := by decide +kernel
theorem dX12_isSpot_30 : decode cX12_isSpot 30 = .ok (.iconst 4, 1) := by decide +kernel
theorem dX12_isSpot_31 : decode cX12_isSpot 31 = .ok (.irem, 1) := by decide +kernel
theorem dX12_isSpot_32 : decode cX12_isSpot 32 = .ok (.invokevirtual 346, 3) := by decide +kernel
theorem dX12_isSpot_35 : decode cX12_isSpot 35 = .ok (.ifCond .eq 7, 3) := by decide +kernel
theorem dX12_isSpot_38 : decode cX12_isSpot 38 = .ok (.iconst 1, 1) := by decide +kernel
theorem dX12_isSpot_39 : decode cX12_isSpot 39 = .ok (.goto 4, 3) := by decide +kernel
theorem dX12_isSpot_42 : decode cX12_isSpot 42 = .ok (.iconst 0, 1) := by decide +kernel
theorem dX12_isSpot_43 : decode cX12_isSpot 43 = .ok (.ireturn, 1) := by decide +kernel
set_option maxRecDepth 20000 in
def kX12_isSpot_0 (g : sk_G) (d ck sk : Nat) (Q : sk_P) : sk_K := o_aload 0 (o_iload 1 (o_invT (g, d, ck, sk, xX12_isSpot, Q) 2 1 12 (fun Q => kX12_isWriting_0 g (d - 1) 0 0 Q) (o_ifeq (o_i (0) (o_zret (g, d, ck, sk, xX12_isSpot, Q))) (o_iload 2 (o_i (0) (o_i (4) (o_aload 0 (o_getf 12 23 (o_imul (o_i (1) (o_isub (o_stcT (g, d, ck, sk, xX12_isSpot, Q) 3 3 (fun Q => kX12_in_0 g (d - 1) 0 0 Q) (o_ifeq (o_i (0) (o_zret (g, d, ck, sk, xX12_isSpot, Q))) (o_aload 0 (o_iload 1 (o_iload 2 (o_i (4) (o_idiv (o_iload 2 (o_i (4) (o_irem (o_invB (g, d, ck, sk, xX12_isSpot, Q) xX12_doesAt 3 12 0 0 (o_ifeq (o_i (0) (o_zret (g, d, ck, sk, xX12_isSpot, Q))) (o_i (1) (o_zret (g, d, ck, sk, xX12_isSpot, Q))))))))))))))))))))))))))
set_option maxRecDepth 20000 in
theorem tX12_isSpot_0 {g : sk_G} {d ck sk : Nat} {Q : sk_P} : sk_S (g, d, ck, sk, xX12_isSpot, Q) 0 (kX12_isSpot_0 g d ck sk Q) := s_aload_n dX12_isSpot_0 rfl (s_iload_n dX12_isSpot_1 rfl (s_invT (X := xX12_isWriting) (ci := 12) (T := TX12) (N := 49) (K := (fun Q => kX12_isWriting_0 g (d - 1) 0 0 Q)) (fun _ => tX12_isWriting_0) rfl dX12_isSpot_2 m_X12_isWriting rfl (by decide) qm_X12_343 qi_X12_isWriting qe_X12_isWriting (s_ifeq (tgt := 42) dX12_isSpot_5 (by decide) (s_iconst dX12_isSpot_42 (s_zret dX12_isSpot_43 rfl)) (s_iload_n dX12_isSpot_8 rfl (s_iconst dX12_isSpot_9 (s_iconst dX12_isSpot_10 (s_aload_n dX12_isSpot_11 rfl (s_getf (ci := 12) (j := 23) (C := RX12) (T := TX12) (N := 49) dX12_isSpot_12 rfl (by decide) (by decide) qf_X12_273 (s_imul dX12_isSpot_15 (s_iconst dX12_isSpot_16 (s_isub dX12_isSpot_17 (s_stcT (X := xX12_in) (K := (fun Q => kX12_in_0 g (d - 1) 0 0 Q)) (fun _ => tX12_in_0) rfl dX12_isSpot_18 m_X12_in qm_X12_224 qs_X12_in (s_ifeq (tgt := 42) dX12_isSpot_21 (by decide) (s_iconst dX12_isSpot_42 (s_zret dX12_isSpot_43 rfl)) (s_aload_n dX12_isSpot_24 rfl (s_iload_n dX12_isSpot_25 rfl (s_iload_n dX12_isSpot_26 rfl (s_iconst dX12_isSpot_27 (s_idiv dX12_isSpot_28 (s_iload_n dX12_isSpot_29 rfl (s_iconst dX12_isSpot_30 (s_irem dX12_isSpot_31 (s_invB (w' := (g, d, ck, sk, xX12_isSpot, Q)) (ci := 12) (ck := 0) (sk := 0) (T := TX12) (N := 49) dX12_isSpot_32 m_X12_doesAt rfl (by decide) qm_X12_346 qi_X12_doesAt qe_X12_doesAt rfl (s_ifeq (tgt := 42) dX12_isSpot_35 (by decide) (s_iconst dX12_isSpot_42 (s_zret dX12_isSpot_43 rfl)) (s_iconst dX12_isSpot_38 (s_goto (tgt := 43) dX12_isSpot_39 (by decide) (s_zret dX12_isSpot_43 rfl))))))))))))))))))))))))))
theorem dX12_manyWho_0 : decode cX12_manyWho 0 = .ok (.iconst 0, 1) := by decide +kernel
theorem dX12_manyWho_1 : decode cX12_manyWho 1 = .ok (.istore 4, 2) := by decide +kernel
theorem dX12_manyWho_3 : decode cX12_manyWho 3 = .ok (.iconst 0, 1) := by decide +kernel
theorem dX12_manyWho_4 : decode cX12_manyWho 4 = .ok (.istore 5, 2) := by decide +kernel
theorem dX12_manyWho_6 : decode cX12_manyWho 6 = .ok (.iload 5, 2) := by decide +kernel
theorem dX12_manyWho_8 : decode cX12_manyWho 8 = .ok (.aload_n 0, 1) := by decide +kernel
theorem dX12_manyWho_9 : decode cX12_manyWho 9 = .ok (.getfield 55, 3) := by decide +kernel
theorem dX12_manyWho_12 : decode cX12_manyWho 12 = .ok (.iload_n 1, 1) := by decide +kernel
theorem dX12_manyWho_13 : decode cX12_manyWho 13 = .ok (.iaload, 1) := by decide +kernel
theorem dX12_manyWho_14 : decode cX12_manyWho 14 = .ok (.if_icmp .ge 59, 3) := by decide +kernel
theorem dX12_manyWho_17 : decode cX12_manyWho 17 = .ok (.iload 4, 2) := by decide +kernel
theorem dX12_manyWho_19 : decode cX12_manyWho 19 = .ok (.aload_n 0, 1) := by decide +kernel
theorem dX12_manyWho_20 : decode cX12_manyWho 20 = .ok (.iload_n 1, 1) := by decide +kernel
theorem dX12_manyWho_21 : decode cX12_manyWho 21 = .ok (.iload 5, 2) := by decide +kernel
theorem dX12_manyWho_23 : decode cX12_manyWho 23 = .ok (.invokevirtual 349, 3) := by decide +kernel
theorem dX12_manyWho_26 : decode cX12_manyWho 26 = .ok (.bipush 26, 2) := by decide +kernel
theorem dX12_manyWho_28 : decode cX12_manyWho 28 = .ok (.if_icmp .eq 35, 3) := by decide +kernel
theorem dX12_manyWho_31 : decode cX12_manyWho 31 = .ok (.aload_n 0, 1) := by decide +kernel
theorem dX12_manyWho_32 : decode cX12_manyWho 32 = .ok (.aload_n 0, 1) := by decide +kernel
theorem dX12_manyWho_33 : decode cX12_manyWho 33 = .ok (.iload_n 1, 1) := by decide +kernel
theorem dX12_manyWho_34 : decode cX12_manyWho 34 = .ok (.iload 5, 2) := by decide +kernel
theorem dX12_manyWho_36 : decode cX12_manyWho 36 = .ok (.invokevirtual 349, 3) := by decide +kernel
theorem dX12_manyWho_39 : decode cX12_manyWho 39 = .ok (.aload_n 0, 1) := by decide +kernel
theorem dX12_manyWho_40 : decode cX12_manyWho 40 = .ok (.iload_n 1, 1) := by decide +kernel
theorem dX12_manyWho_41 : decode cX12_manyWho 41 = .ok (.iload 5, 2) := by decide +kernel
theorem dX12_manyWho_43 : decode cX12_manyWho 43 = .ok (.iload_n 2, 1) := by decide +kernel
theorem dX12_manyWho_44 : decode cX12_manyWho 44 = .ok (.iconst 4, 1) := by decide +kernel
theorem dX12_manyWho_45 : decode cX12_manyWho 45 = .ok (.idiv, 1) := by decide +kernel
theorem dX12_manyWho_46 : decode cX12_manyWho 46 = .ok (.iload_n 2, 1) := by decide +kernel
theorem dX12_manyWho_47 : decode cX12_manyWho 47 = .ok (.iconst 4, 1) := by decide +kernel
theorem dX12_manyWho_48 : decode cX12_manyWho 48 = .ok (.irem, 1) := by decide +kernel
theorem dX12_manyWho_49 : decode cX12_manyWho 49 = .ok (.invokevirtual 339, 3) := by decide +kernel
theorem dX12_manyWho_52 : decode cX12_manyWho 52 = .ok (.invokevirtual 405, 3) := by decide +kernel
theorem dX12_manyWho_55 : decode cX12_manyWho 55 = .ok (.iload_n 3, 1) := by decide +kernel
theorem dX12_manyWho_56 : decode cX12_manyWho 56 = .ok (.if_icmp .ne 7, 3) := by decide +kernel
theorem dX12_manyWho_59 : decode cX12_manyWho 59 = .ok (.iconst 1, 1) := by decide +kernel
theorem dX12_manyWho_60 : decode cX12_manyWho 60 = .ok (.goto 4, 3) := by decide +kernel
theorem dX12_manyWho_63 : decode cX12_manyWho 63 = .ok (.iconst 0, 1) := by decide +kernel
theorem dX12_manyWho_64 : decode cX12_manyWho 64 = .ok (.iadd, 1) := by decide +kernel
theorem dX12_manyWho_65 : decode cX12_manyWho 65 = .ok (.istore 4, 2) := by decide +kernel
theorem dX12_manyWho_67 : decode cX12_manyWho 67 = .ok (.iinc 5 1, 3) := by decide +kernel
theorem dX12_manyWho_70 : decode cX12_manyWho 70 = .ok (.goto (-64), 3) := by decide +kernel
theorem dX12_manyWho_73 : decode cX12_manyWho 73 = .ok (.iload 4, 2) := by decide +kernel
theorem dX12_manyWho_75 : decode cX12_manyWho 75 = .ok (.ireturn, 1) := by decide +kernel
def kX12_manyWho_0 (g : sk_G) (d ck sk : Nat) (Q : sk_P) : sk_K := o_i (0) (o_istore 4 (o_i (0) (o_istore 5 (sk_B (g, d, ck, sk, xX12_manyWho, Q) 6))))
theorem tX12_manyWho_0 {g : sk_G} {d ck sk : Nat} {Q : sk_P} : sk_S (g, d, ck, sk, xX12_manyWho, Q) 0 (kX12_manyWho_0 g d ck sk Q) := s_iconst dX12_manyWho_0 (s_istore dX12_manyWho_1 (by decide : 4 < 6) (s_iconst dX12_manyWho_3 (s_istore dX12_manyWho_4 (by decide : 5 < 6) (sk_id))))
set_option maxRecDepth 20000 in
def kX12_manyWho_6 (g : sk_G) (d ck sk : Nat) (Q : sk_P) : sk_K := o_iload 5 (o_aload 0 (o_getf 12 25 (o_iload 1 (o_iaload (o_icge (o_iload 4 (o_iret (g, d, ck, sk, xX12_manyWho, Q))) (o_iload 4 (o_aload 0 (o_iload 1 (o_iload 5 (o_invT (g, d, ck, sk, xX12_manyWho, Q) 3 2 12 (fun Q => kX12_signOf_0 g (d - 1) 0 0 Q) (o_i (26) (o_iceq (o_i (0) (o_iadd (o_istore 4 (o_iinc 5 (1) (sk_B (g, d, ck, sk, xX12_manyWho, Q) 6))))) (o_aload 0 (o_aload 0 (o_iload 1 (o_iload 5 (o_invT (g, d, ck, sk, xX12_manyWho, Q) 3 2 12 (fun Q => kX12_signOf_0 g (d - 1) 0 0 Q) (o_aload 0 (o_iload 1 (o_iload 5 (o_iload 2 (o_i (4) (o_idiv (o_iload 2 (o_i (4) (o_irem (o_invB (g, d, ck, sk, xX12_manyWho, Q) xX12_cellOf 4 12 0 0 (o_invB (g, d, ck, sk, xX12_manyWho, Q) xX12_howAt 2 12 0 0 (o_iload 3 (o_icne (o_i (0) (o_iadd (o_istore 4 (o_iinc 5 (1) (sk_B (g, d, ck, sk, xX12_manyWho, Q) 6))))) (o_i (1) (o_iadd (o_istore 4 (o_iinc 5 (1) (sk_B (g, d, ck, sk, xX12_manyWho, Q) 6)))))))))))))))))))))))))))))))))))
set_option maxRecDepth 20000 in
theorem tX12_manyWho_6 {g : sk_G} {d ck sk : Nat} {Q : sk_P} : sk_S (g, d, ck, sk, xX12_manyWho, Q) 6 (kX12_manyWho_6 g d ck sk Q) := s_iload dX12_manyWho_6 (s_aload_n dX12_manyWho_8 rfl (s_getf (ci := 12) (j := 25) (C := RX12) (T := TX12) (N := 49) dX12_manyWho_9 rfl (by decide) (by decide) qf_X12_55 (s_iload_n dX12_manyWho_12 rfl (s_iaload dX12_manyWho_13 (s_icge (tgt := 73) dX12_manyWho_14 (by decide) (s_iload dX12_manyWho_73 (s_iret dX12_manyWho_75 rfl)) (s_iload dX12_manyWho_17 (s_aload_n dX12_manyWho_19 rfl (s_iload_n dX12_manyWho_20 rfl (s_iload dX12_manyWho_21 (s_invT (X := xX12_signOf) (ci := 12) (T := TX12) (N := 49) (K := (fun Q => kX12_signOf_0 g (d - 1) 0 0 Q)) (fun _ => tX12_signOf_0) rfl dX12_manyWho_23 m_X12_signOf rfl (by decide) qm_X12_349 qi_X12_signOf qe_X12_signOf (s_bipush dX12_manyWho_26 rfl (s_iceq (tgt := 63) dX12_manyWho_28 (by decide) (s_iconst dX12_manyWho_63 (s_iadd dX12_manyWho_64 (s_istore dX12_manyWho_65 (by decide : 4 < 6) (s_iinc dX12_manyWho_67 (by decide : 5 < 6) (s_goto (tgt := 6) dX12_manyWho_70 (by decide) (sk_id)))))) (s_aload_n dX12_manyWho_31 rfl (s_aload_n dX12_manyWho_32 rfl (s_iload_n dX12_manyWho_33 rfl (s_iload dX12_manyWho_34 (s_invT (X := xX12_signOf) (ci := 12) (T := TX12) (N := 49) (K := (fun Q => kX12_signOf_0 g (d - 1) 0 0 Q)) (fun _ => tX12_signOf_0) rfl dX12_manyWho_36 m_X12_signOf rfl (by decide) qm_X12_349 qi_X12_signOf qe_X12_signOf (s_aload_n dX12_manyWho_39 rfl (s_iload_n dX12_manyWho_40 rfl (s_iload dX12_manyWho_41 (s_iload_n dX12_manyWho_43 rfl (s_iconst dX12_manyWho_44 (s_idiv dX12_manyWho_45 (s_iload_n dX12_manyWho_46 rfl (s_iconst dX12_manyWho_47 (s_irem dX12_manyWho_48 (s_invB (w' := (g, d, ck, sk, xX12_manyWho, Q)) (ci := 12) (ck := 0) (sk := 0) (T := TX12) (N := 49) dX12_manyWho_49 m_X12_cellOf rfl (by decide) qm_X12_339 qi_X12_cellOf qe_X12_cellOf rfl (s_invB (w' := (g, d, ck, sk, xX12_manyWho, Q)) (ci := 12) (ck := 0) (sk := 0) (T := TX12) (N := 49) dX12_manyWho_52 m_X12_howAt rfl (by decide) qm_X12_405 qi_X12_howAt qe_X12_howAt rfl (s_iload_n dX12_manyWho_55 rfl (s_icne (tgt := 63) dX12_manyWho_56 (by decide) (s_iconst dX12_manyWho_63 (s_iadd dX12_manyWho_64 (s_istore dX12_manyWho_65 (by decide : 4 < 6) (s_iinc dX12_manyWho_67 (by decide : 5 < 6) (s_goto (tgt := 6) dX12_manyWho_70 (by decide) (sk_id)))))) (s_iconst dX12_manyWho_59 (s_goto (tgt := 64) dX12_manyWho_60 (by decide) (s_iadd dX12_manyWho_64 (s_istore dX12_manyWho_65 (by decide : 4 < 6) (s_iinc dX12_manyWho_67 (by decide : 5 < 6) (s_goto (tgt := 6) dX12_manyWho_70 (by decide) (sk_id)))))))))))))))))))))))))))))))))))))
