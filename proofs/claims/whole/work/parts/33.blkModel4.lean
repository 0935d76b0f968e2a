theorem dX12_howAt_0 : decode cX12_howAt 0 = .ok (.iconst 1, 1) := by decide +kernel
theorem dX12_howAt_1 : decode cX12_howAt 1 = .ok (.istore_n 3, 1) := by decide +kernel
theorem dX12_howAt_2 : decode cX12_howAt 2 = .ok (.iconst 0, 1) := by decide +kernel
theorem dX12_howAt_3 : decode cX12_howAt 3 = .ok (.istore 4, 2) := by decide +kernel
theorem dX12_howAt_5 : decode cX12_howAt 5 = .ok (.iload 4, 2) := by decide +kernel
theorem dX12_howAt_7 : decode cX12_howAt 7 = .ok (.aload_n 0, 1) := by decide +kernel
theorem dX12_howAt_8 : decode cX12_howAt 8 = .ok (.getfield 61, 3) := by decide +kernel
theorem dX12_howAt_11 : decode cX12_howAt 11 = .ok (.iconst 0, 1) := by decide +kernel
theorem dX12_howAt_12 : decode cX12_howAt 12 = .ok (.iload_n 2, 1) := by decide +kernel
theorem dX12_howAt_13 : decode cX12_howAt 13 = .ok (.iadd, 1) := by decide +kernel
theorem dX12_howAt_14 : decode cX12_howAt 14 = .ok (.iaload, 1) := by decide +kernel
theorem dX12_howAt_15 : decode cX12_howAt 15 = .ok (.if_icmp .ge 45, 3) := by decide +kernel
theorem dX12_howAt_18 : decode cX12_howAt 18 = .ok (.aload_n 0, 1) := by decide +kernel
theorem dX12_howAt_19 : decode cX12_howAt 19 = .ok (.iload_n 2, 1) := by decide +kernel
theorem dX12_howAt_20 : decode cX12_howAt 20 = .ok (.iload 4, 2) := by decide +kernel
theorem dX12_howAt_22 : decode cX12_howAt 22 = .ok (.invokevirtual 301, 3) := by decide +kernel
theorem dX12_howAt_25 : decode cX12_howAt 25 = .ok (.ifCond .eq 7, 3) := by decide +kernel
theorem dX12_howAt_28 : decode cX12_howAt 28 = .ok (.iload_n 3, 1) := by decide +kernel
theorem dX12_howAt_29 : decode cX12_howAt 29 = .ok (.ifCond .ne 7, 3) := by decide +kernel
theorem dX12_howAt_32 : decode cX12_howAt 32 = .ok (.iload_n 3, 1) := by decide +kernel
theorem dX12_howAt_33 : decode cX12_howAt 33 = .ok (.goto 20, 3) := by decide +kernel
theorem dX12_howAt_36 : decode cX12_howAt 36 = .ok (.aload_n 0, 1) := by decide +kernel
theorem dX12_howAt_37 : decode cX12_howAt 37 = .ok (.iload_n 2, 1) := by decide +kernel
theorem dX12_howAt_38 : decode cX12_howAt 38 = .ok (.iload 4, 2) := by decide +kernel
theorem dX12_howAt_40 : decode cX12_howAt 40 = .ok (.iconst 0, 1) := by decide +kernel
theorem dX12_howAt_41 : decode cX12_howAt 41 = .ok (.invokevirtual 295, 3) := by decide +kernel
theorem dX12_howAt_44 : decode cX12_howAt 44 = .ok (.iload_n 1, 1) := by decide +kernel
theorem dX12_howAt_45 : decode cX12_howAt 45 = .ok (.if_icmp .ne 7, 3) := by decide +kernel
theorem dX12_howAt_48 : decode cX12_howAt 48 = .ok (.iconst 0, 1) := by decide +kernel
theorem dX12_howAt_49 : decode cX12_howAt 49 = .ok (.goto 4, 3) := by decide +kernel
theorem dX12_howAt_52 : decode cX12_howAt 52 = .ok (.iconst 2, 1) := by decide +kernel
theorem dX12_howAt_53 : decode cX12_howAt 53 = .ok (.istore_n 3, 1) := by decide +kernel
theorem dX12_howAt_54 : decode cX12_howAt 54 = .ok (.iinc 4 1, 3) := by decide +kernel
theorem dX12_howAt_57 : decode cX12_howAt 57 = .ok (.goto (-52), 3) := by decide +kernel
theorem dX12_howAt_60 : decode cX12_howAt 60 = .ok (.iload_n 3, 1) := by decide +kernel
theorem dX12_howAt_61 : decode cX12_howAt 61 = .ok (.ireturn, 1) := by decide +kernel
def kX12_howAt_0 (g : sk_G) (d ck sk : Nat) (Q : sk_P) : sk_K := o_i (1) (o_istore 3 (o_i (0) (o_istore 4 (sk_B (g, d, ck, sk, xX12_howAt, Q) 5))))
theorem tX12_howAt_0 {g : sk_G} {d ck sk : Nat} {Q : sk_P} : sk_S (g, d, ck, sk, xX12_howAt, Q) 0 (kX12_howAt_0 g d ck sk Q) := s_iconst dX12_howAt_0 (s_istore_n dX12_howAt_1 rfl (by decide : 3 < 5) (s_iconst dX12_howAt_2 (s_istore dX12_howAt_3 (by decide : 4 < 5) (sk_id))))
set_option maxRecDepth 20000 in
def kX12_howAt_5 (g : sk_G) (d ck sk : Nat) (Q : sk_P) : sk_K := o_iload 4 (o_aload 0 (o_getf 12 28 (o_i (0) (o_iload 2 (o_iadd (o_iaload (o_icge (o_iload 3 (o_iret (g, d, ck, sk, xX12_howAt, Q))) (o_aload 0 (o_iload 2 (o_iload 4 (o_invT (g, d, ck, sk, xX12_howAt, Q) 3 2 12 (fun Q => kX12_isLegible_0 g (d - 1) 0 0 Q) (o_ifeq (o_iload 3 (o_istore 3 (o_iinc 4 (1) (sk_B (g, d, ck, sk, xX12_howAt, Q) 5)))) (o_iload 3 (o_ifne (o_aload 0 (o_iload 2 (o_iload 4 (o_i (0) (o_invT (g, d, ck, sk, xX12_howAt, Q) 4 3 12 (fun Q => kX12_of_0 g (d - 1) 0 0 Q) (o_iload 1 (o_icne (o_i (2) (o_istore 3 (o_iinc 4 (1) (sk_B (g, d, ck, sk, xX12_howAt, Q) 5)))) (o_i (0) (o_istore 3 (o_iinc 4 (1) (sk_B (g, d, ck, sk, xX12_howAt, Q) 5))))))))))) (o_iload 3 (o_istore 3 (o_iinc 4 (1) (sk_B (g, d, ck, sk, xX12_howAt, Q) 5))))))))))))))))))
set_option maxRecDepth 20000 in
theorem tX12_howAt_5 {g : sk_G} {d ck sk : Nat} {Q : sk_P} : sk_S (g, d, ck, sk, xX12_howAt, Q) 5 (kX12_howAt_5 g d ck sk Q) := s_iload dX12_howAt_5 (s_aload_n dX12_howAt_7 rfl (s_getf (ci := 12) (j := 28) (C := RX12) (T := TX12) (N := 49) dX12_howAt_8 rfl (by decide) (by decide) qf_X12_61 (s_iconst dX12_howAt_11 (s_iload_n dX12_howAt_12 rfl (s_iadd dX12_howAt_13 (s_iaload dX12_howAt_14 (s_icge (tgt := 60) dX12_howAt_15 (by decide) (s_iload_n dX12_howAt_60 rfl (s_iret dX12_howAt_61 rfl)) (s_aload_n dX12_howAt_18 rfl (s_iload_n dX12_howAt_19 rfl (s_iload dX12_howAt_20 (s_invT (X := xX12_isLegible) (ci := 12) (T := TX12) (N := 49) (K := (fun Q => kX12_isLegible_0 g (d - 1) 0 0 Q)) (fun _ => tX12_isLegible_0) rfl dX12_howAt_22 m_X12_isLegible rfl (by decide) qm_X12_301 qi_X12_isLegible qe_X12_isLegible (s_ifeq (tgt := 32) dX12_howAt_25 (by decide) (s_iload_n dX12_howAt_32 rfl (s_goto (tgt := 53) dX12_howAt_33 (by decide) (s_istore_n dX12_howAt_53 rfl (by decide : 3 < 5) (s_iinc dX12_howAt_54 (by decide : 4 < 5) (s_goto (tgt := 5) dX12_howAt_57 (by decide) (sk_id)))))) (s_iload_n dX12_howAt_28 rfl (s_ifne (tgt := 36) dX12_howAt_29 (by decide) (s_aload_n dX12_howAt_36 rfl (s_iload_n dX12_howAt_37 rfl (s_iload dX12_howAt_38 (s_iconst dX12_howAt_40 (s_invT (X := xX12_of) (ci := 12) (T := TX12) (N := 49) (K := (fun Q => kX12_of_0 g (d - 1) 0 0 Q)) (fun _ => tX12_of_0) rfl dX12_howAt_41 m_X12_of rfl (by decide) qm_X12_295 qi_X12_of qe_X12_of (s_iload_n dX12_howAt_44 rfl (s_icne (tgt := 52) dX12_howAt_45 (by decide) (s_iconst dX12_howAt_52 (s_istore_n dX12_howAt_53 rfl (by decide : 3 < 5) (s_iinc dX12_howAt_54 (by decide : 4 < 5) (s_goto (tgt := 5) dX12_howAt_57 (by decide) (sk_id))))) (s_iconst dX12_howAt_48 (s_goto (tgt := 53) dX12_howAt_49 (by decide) (s_istore_n dX12_howAt_53 rfl (by decide : 3 < 5) (s_iinc dX12_howAt_54 (by decide : 4 < 5) (s_goto (tgt := 5) dX12_howAt_57 (by decide) (sk_id))))))))))))) (s_iload_n dX12_howAt_32 rfl (s_goto (tgt := 53) dX12_howAt_33 (by decide) (s_istore_n dX12_howAt_53 rfl (by decide : 3 < 5) (s_iinc dX12_howAt_54 (by decide : 4 < 5) (s_goto (tgt := 5) dX12_howAt_57 (by decide) (sk_id))))))))))))))))))))
theorem dX12_may_0 : decode cX12_may 0 = .ok (.aload_n 0, 1) := by decide +kernel
theorem dX12_may_1 : decode cX12_may 1 = .ok (.iload_n 1, 1) := by decide +kernel
theorem dX12_may_2 : decode cX12_may 2 = .ok (.invokevirtual 343, 3) := by decide +kernel
theorem dX12_may_5 : decode cX12_may 5 = .ok (.ifCond .eq 8, 3) := by decide +kernel
theorem dX12_may_8 : decode cX12_may 8 = .ok (.iload_n 2, 1) := by decide +kernel
theorem dX12_may_9 : decode cX12_may 9 = .ok (.iconst (-1), 1) := by decide +kernel
theorem dX12_may_10 : decode cX12_may 10 = .ok (.if_icmp .ge 5, 3) := by decide +kernel
theorem dX12_may_13 : decode cX12_may 13 = .ok (.iconst (-1), 1) := by decide +kernel
theorem dX12_may_14 : decode cX12_may 14 = .ok (.ireturn, 1) := by decide +kernel
theorem dX12_may_15 : decode cX12_may 15 = .ok (.iconst 0, 1) := by decide +kernel
theorem dX12_may_16 : decode cX12_may 16 = .ok (.istore_n 3, 1) := by decide +kernel
theorem dX12_may_17 : decode cX12_may 17 = .ok (.iconst 0, 1) := by decide +kernel
theorem dX12_may_18 : decode cX12_may 18 = .ok (.istore 4, 2) := by decide +kernel
theorem dX12_may_20 : decode cX12_may 20 = .ok (.iload 4, 2) := by decide +kernel
theorem dX12_may_22 : decode cX12_may 22 = .ok (.iconst 4, 1) := by decide +kernel
theorem dX12_may_23 : decode cX12_may 23 = .ok (.aload_n 0, 1) := by decide +kernel
theorem dX12_may_24 : decode cX12_may 24 = .ok (.getfield 273, 3) := by decide +kernel
theorem dX12_may_27 : decode cX12_may 27 = .ok (.imul, 1) := by decide +kernel
theorem dX12_may_28 : decode cX12_may 28 = .ok (.if_icmp .ge 30, 3) := by decide +kernel
theorem dX12_may_31 : decode cX12_may 31 = .ok (.aload_n 0, 1) := by decide +kernel
theorem dX12_may_32 : decode cX12_may 32 = .ok (.iload_n 1, 1) := by decide +kernel
theorem dX12_may_33 : decode cX12_may 33 = .ok (.iload 4, 2) := by decide +kernel
theorem dX12_may_35 : decode cX12_may 35 = .ok (.invokevirtual 414, 3) := by decide +kernel
theorem dX12_may_38 : decode cX12_may 38 = .ok (.ifCond .eq 14, 3) := by decide +kernel
theorem dX12_may_41 : decode cX12_may 41 = .ok (.iload_n 3, 1) := by decide +kernel
theorem dX12_may_42 : decode cX12_may 42 = .ok (.iload_n 2, 1) := by decide +kernel
theorem dX12_may_43 : decode cX12_may 43 = .ok (.if_icmp .ne 6, 3) := by decide +kernel
theorem dX12_may_46 : decode cX12_may 46 = .ok (.iload 4, 2) := by decide +kernel
theorem dX12_may_48 : decode cX12_may 48 = .ok (.ireturn, 1) := by decide +kernel
theorem dX12_may_49 : decode cX12_may 49 = .ok (.iinc 3 1, 3) := by decide +kernel
theorem dX12_may_52 : decode cX12_may 52 = .ok (.iinc 4 1, 3) := by decide +kernel
theorem dX12_may_55 : decode cX12_may 55 = .ok (.goto (-35), 3) := by decide +kernel
theorem dX12_may_58 : decode cX12_may 58 = .ok (.iload_n 2, 1) := by decide +kernel
theorem dX12_may_59 : decode cX12_may 59 = .ok (.iconst (-1), 1) := by decide +kernel
theorem dX12_may_60 : decode cX12_may 60 = .ok (.if_icmp .ne 7, 3) := by decide +kernel
theorem dX12_may_63 : decode cX12_may 63 = .ok (.iload_n 3, 1) := by decide +kernel
theorem dX12_may_64 : decode cX12_may 64 = .ok (.goto 4, 3) := by decide +kernel
theorem dX12_may_67 : decode cX12_may 67 = .ok (.iconst (-1), 1) := by decide +kernel
theorem dX12_may_68 : decode cX12_may 68 = .ok (.ireturn, 1) := by decide +kernel
set_option maxRecDepth 20000 in
def kX12_may_0 (g : sk_G) (d ck sk : Nat) (Q : sk_P) : sk_K := o_aload 0 (o_iload 1 (o_invT (g, d, ck, sk, xX12_may, Q) 2 1 12 (fun Q => kX12_isWriting_0 g (d - 1) 0 0 Q) (o_ifeq (o_i (-1) (o_iret (g, d, ck, sk, xX12_may, Q))) (o_iload 2 (o_i (-1) (o_icge (o_i (0) (o_istore 3 (o_i (0) (o_istore 4 (sk_B (g, d, ck, sk, xX12_may, Q) 20))))) (o_i (-1) (o_iret (g, d, ck, sk, xX12_may, Q)))))))))
set_option maxRecDepth 20000 in
theorem tX12_may_0 {g : sk_G} {d ck sk : Nat} {Q : sk_P} : sk_S (g, d, ck, sk, xX12_may, Q) 0 (kX12_may_0 g d ck sk Q) := s_aload_n dX12_may_0 rfl (s_iload_n dX12_may_1 rfl (s_invT (X := xX12_isWriting) (ci := 12) (T := TX12) (N := 49) (K := (fun Q => kX12_isWriting_0 g (d - 1) 0 0 Q)) (fun _ => tX12_isWriting_0) rfl dX12_may_2 m_X12_isWriting rfl (by decide) qm_X12_343 qi_X12_isWriting qe_X12_isWriting (s_ifeq (tgt := 13) dX12_may_5 (by decide) (s_iconst dX12_may_13 (s_iret dX12_may_14 rfl)) (s_iload_n dX12_may_8 rfl (s_iconst dX12_may_9 (s_icge (tgt := 15) dX12_may_10 (by decide) (s_iconst dX12_may_15 (s_istore_n dX12_may_16 rfl (by decide : 3 < 5) (s_iconst dX12_may_17 (s_istore dX12_may_18 (by decide : 4 < 5) (sk_id))))) (s_iconst dX12_may_13 (s_iret dX12_may_14 rfl))))))))
set_option maxRecDepth 20000 in
def kX12_may_20 (g : sk_G) (d ck sk : Nat) (Q : sk_P) : sk_K := o_iload 4 (o_i (4) (o_aload 0 (o_getf 12 23 (o_imul (o_icge (o_iload 2 (o_i (-1) (o_icne (o_i (-1) (o_iret (g, d, ck, sk, xX12_may, Q))) (o_iload 3 (o_iret (g, d, ck, sk, xX12_may, Q)))))) (o_aload 0 (o_iload 1 (o_iload 4 (o_invB (g, d, ck, sk, xX12_may, Q) xX12_mayAt 2 12 0 0 (o_ifeq (o_iinc 4 (1) (sk_B (g, d, ck, sk, xX12_may, Q) 20)) (o_iload 3 (o_iload 2 (o_icne (o_iinc 3 (1) (o_iinc 4 (1) (sk_B (g, d, ck, sk, xX12_may, Q) 20))) (o_iload 4 (o_iret (g, d, ck, sk, xX12_may, Q))))))))))))))))
set_option maxRecDepth 20000 in
theorem tX12_may_20 {g : sk_G} {d ck sk : Nat} {Q : sk_P} : sk_S (g, d, ck, sk, xX12_may, Q) 20 (kX12_may_20 g d ck sk Q) := s_iload dX12_may_20 (s_iconst dX12_may_22 (s_aload_n dX12_may_23 rfl (s_getf (ci := 12) (j := 23) (C := RX12) (T := TX12) (N := 49) dX12_may_24 rfl (by decide) (by decide) qf_X12_273 (s_imul dX12_may_27 (s_icge (tgt := 58) dX12_may_28 (by decide) (s_iload_n dX12_may_58 rfl (s_iconst dX12_may_59 (s_icne (tgt := 67) dX12_may_60 (by decide) (s_iconst dX12_may_67 (s_iret dX12_may_68 rfl)) (s_iload_n dX12_may_63 rfl (s_goto (tgt := 68) dX12_may_64 (by decide) (s_iret dX12_may_68 rfl)))))) (s_aload_n dX12_may_31 rfl (s_iload_n dX12_may_32 rfl (s_iload dX12_may_33 (s_invB (w' := (g, d, ck, sk, xX12_may, Q)) (ci := 12) (ck := 0) (sk := 0) (T := TX12) (N := 49) dX12_may_35 m_X12_mayAt rfl (by decide) qm_X12_414 qi_X12_mayAt qe_X12_mayAt rfl (s_ifeq (tgt := 52) dX12_may_38 (by decide) (s_iinc dX12_may_52 (by decide : 4 < 5) (s_goto (tgt := 20) dX12_may_55 (by decide) (sk_id))) (s_iload_n dX12_may_41 rfl (s_iload_n dX12_may_42 rfl (s_icne (tgt := 49) dX12_may_43 (by decide) (s_iinc dX12_may_49 (by decide : 3 < 5) (s_iinc dX12_may_52 (by decide : 4 < 5) (s_goto (tgt := 20) dX12_may_55 (by decide) (sk_id)))) (s_iload dX12_may_46 (s_iret dX12_may_48 rfl)))))))))))))))
theorem dX12_mayAt_0 : decode cX12_mayAt 0 = .ok (.aload_n 0, 1) := by decide +kernel
theorem dX12_mayAt_1 : decode cX12_mayAt 1 = .ok (.iload_n 1, 1) := by decide +kernel
theorem dX12_mayAt_2 : decode cX12_mayAt 2 = .ok (.iload_n 2, 1) := by decide +kernel
theorem dX12_mayAt_3 : decode cX12_mayAt 3 = .ok (.invokevirtual 408, 3) := by decide +kernel
theorem dX12_mayAt_6 : decode cX12_mayAt 6 = .ok (.ifCond .eq 27, 3) := by decide +kernel
theorem dX12_mayAt_9 : decode cX12_mayAt 9 = .ok (.aload_n 0, 1) := by decide +kernel
theorem dX12_mayAt_10 : decode cX12_mayAt 10 = .ok (.iload_n 1, 1) := by decide +kernel
theorem dX12_mayAt_11 : decode cX12_mayAt 11 = .ok (.iload_n 2, 1) := by decide +kernel
theorem dX12_mayAt_12 : decode cX12_mayAt 12 = .ok (.iconst 2, 1) := by decide +kernel
theorem dX12_mayAt_13 : decode cX12_mayAt 13 = .ok (.invokevirtual 411, 3) := by decide +kernel
theorem dX12_mayAt_16 : decode cX12_mayAt 16 = .ok (.ifCond .ne 17, 3) := by decide +kernel
theorem dX12_mayAt_19 : decode cX12_mayAt 19 = .ok (.aload_n 0, 1) := by decide +kernel
theorem dX12_mayAt_20 : decode cX12_mayAt 20 = .ok (.iload_n 1, 1) := by decide +kernel
theorem dX12_mayAt_21 : decode cX12_mayAt 21 = .ok (.iload_n 2, 1) := by decide +kernel
theorem dX12_mayAt_22 : decode cX12_mayAt 22 = .ok (.iconst 0, 1) := by decide +kernel
theorem dX12_mayAt_23 : decode cX12_mayAt 23 = .ok (.invokevirtual 411, 3) := by decide +kernel
theorem dX12_mayAt_26 : decode cX12_mayAt 26 = .ok (.ifCond .le 7, 3) := by decide +kernel
theorem dX12_mayAt_29 : decode cX12_mayAt 29 = .ok (.iconst 1, 1) := by decide +kernel
theorem dX12_mayAt_30 : decode cX12_mayAt 30 = .ok (.goto 4, 3) := by decide +kernel
theorem dX12_mayAt_33 : decode cX12_mayAt 33 = .ok (.iconst 0, 1) := by decide +kernel
theorem dX12_mayAt_34 : decode cX12_mayAt 34 = .ok (.ireturn, 1) := by decide +kernel
set_option maxRecDepth 20000 in
def kX12_mayAt_0 (g : sk_G) (d ck sk : Nat) (Q : sk_P) : sk_K := o_aload 0 (o_iload 1 (o_iload 2 (o_invB (g, d, ck, sk, xX12_mayAt, Q) xX12_isSpot 2 12 0 0 (o_ifeq (o_i (0) (o_zret (g, d, ck, sk, xX12_mayAt, Q))) (o_aload 0 (o_iload 1 (o_iload 2 (o_i (2) (o_invB (g, d, ck, sk, xX12_mayAt, Q) xX12_manyWho 3 12 0 0 (o_ifne (o_i (0) (o_zret (g, d, ck, sk, xX12_mayAt, Q))) (o_aload 0 (o_iload 1 (o_iload 2 (o_i (0) (o_invB (g, d, ck, sk, xX12_mayAt, Q) xX12_manyWho 3 12 0 0 (o_ifle (o_i (0) (o_zret (g, d, ck, sk, xX12_mayAt, Q))) (o_i (1) (o_zret (g, d, ck, sk, xX12_mayAt, Q)))))))))))))))))))
set_option maxRecDepth 20000 in
theorem tX12_mayAt_0 {g : sk_G} {d ck sk : Nat} {Q : sk_P} : sk_S (g, d, ck, sk, xX12_mayAt, Q) 0 (kX12_mayAt_0 g d ck sk Q) := s_aload_n dX12_mayAt_0 rfl (s_iload_n dX12_mayAt_1 rfl (s_iload_n dX12_mayAt_2 rfl (s_invB (w' := (g, d, ck, sk, xX12_mayAt, Q)) (ci := 12) (ck := 0) (sk := 0) (T := TX12) (N := 49) dX12_mayAt_3 m_X12_isSpot rfl (by decide) qm_X12_408 qi_X12_isSpot qe_X12_isSpot rfl (s_ifeq (tgt := 33) dX12_mayAt_6 (by decide) (s_iconst dX12_mayAt_33 (s_zret dX12_mayAt_34 rfl)) (s_aload_n dX12_mayAt_9 rfl (s_iload_n dX12_mayAt_10 rfl (s_iload_n dX12_mayAt_11 rfl (s_iconst dX12_mayAt_12 (s_invB (w' := (g, d, ck, sk, xX12_mayAt, Q)) (ci := 12) (ck := 0) (sk := 0) (T := TX12) (N := 49) dX12_mayAt_13 m_X12_manyWho rfl (by decide) qm_X12_411 qi_X12_manyWho qe_X12_manyWho rfl (s_ifne (tgt := 33) dX12_mayAt_16 (by decide) (s_iconst dX12_mayAt_33 (s_zret dX12_mayAt_34 rfl)) (s_aload_n dX12_mayAt_19 rfl (s_iload_n dX12_mayAt_20 rfl (s_iload_n dX12_mayAt_21 rfl (s_iconst dX12_mayAt_22 (s_invB (w' := (g, d, ck, sk, xX12_mayAt, Q)) (ci := 12) (ck := 0) (sk := 0) (T := TX12) (N := 49) dX12_mayAt_23 m_X12_manyWho rfl (by decide) qm_X12_411 qi_X12_manyWho qe_X12_manyWho rfl (s_ifle (tgt := 33) dX12_mayAt_26 (by decide) (s_iconst dX12_mayAt_33 (s_zret dX12_mayAt_34 rfl)) (s_iconst dX12_mayAt_29 (s_goto (tgt := 34) dX12_mayAt_30 (by decide) (s_zret dX12_mayAt_34 rfl)))))))))))))))))))
theorem dX12_best_0 : decode cX12_best 0 = .ok (.aload_n 0, 1) := by decide +kernel
theorem dX12_best_1 : decode cX12_best 1 = .ok (.iload_n 1, 1) := by decide +kernel
theorem dX12_best_2 : decode cX12_best 2 = .ok (.invokevirtual 343, 3) := by decide +kernel
theorem dX12_best_5 : decode cX12_best 5 = .ok (.ifCond .ne 5, 3) := by decide +kernel
theorem dX12_best_8 : decode cX12_best 8 = .ok (.iconst (-1), 1) := by decide +kernel
theorem dX12_best_9 : decode cX12_best 9 = .ok (.ireturn, 1) := by decide +kernel
theorem dX12_best_10 : decode cX12_best 10 = .ok (.iconst (-1), 1) := by decide +kernel
theorem dX12_best_11 : decode cX12_best 11 = .ok (.istore_n 2, 1) := by decide +kernel
theorem dX12_best_12 : decode cX12_best 12 = .ok (.iconst 0, 1) := by decide +kernel
theorem dX12_best_13 : decode cX12_best 13 = .ok (.istore_n 3, 1) := by decide +kernel
theorem dX12_best_14 : decode cX12_best 14 = .ok (.iload_n 3, 1) := by decide +kernel
theorem dX12_best_15 : decode cX12_best 15 = .ok (.iconst 4, 1) := by decide +kernel
theorem dX12_best_16 : decode cX12_best 16 = .ok (.aload_n 0, 1) := by decide +kernel
theorem dX12_best_17 : decode cX12_best 17 = .ok (.getfield 273, 3) := by decide +kernel
theorem dX12_best_20 : decode cX12_best 20 = .ok (.imul, 1) := by decide +kernel
theorem dX12_best_21 : decode cX12_best 21 = .ok (.if_icmp .ge 46, 3) := by decide +kernel
theorem dX12_best_24 : decode cX12_best 24 = .ok (.aload_n 0, 1) := by decide +kernel
theorem dX12_best_25 : decode cX12_best 25 = .ok (.iload_n 1, 1) := by decide +kernel
theorem dX12_best_26 : decode cX12_best 26 = .ok (.iload_n 3, 1) := by decide +kernel
theorem dX12_best_27 : decode cX12_best 27 = .ok (.invokevirtual 414, 3) := by decide +kernel
theorem dX12_best_30 : decode cX12_best 30 = .ok (.ifCond .eq 29, 3) := by decide +kernel
theorem dX12_best_33 : decode cX12_best 33 = .ok (.iload_n 2, 1) := by decide +kernel
theorem dX12_best_34 : decode cX12_best 34 = .ok (.iconst (-1), 1) := by decide +kernel
theorem dX12_best_35 : decode cX12_best 35 = .ok (.if_icmp .eq 20, 3) := by decide +kernel
theorem dX12_best_38 : decode cX12_best 38 = .ok (.aload_n 0, 1) := by decide +kernel
theorem dX12_best_39 : decode cX12_best 39 = .ok (.iload_n 1, 1) := by decide +kernel
theorem dX12_best_40 : decode cX12_best 40 = .ok (.iload_n 3, 1) := by decide +kernel
theorem dX12_best_41 : decode cX12_best 41 = .ok (.iconst 0, 1) := by decide +kernel
theorem dX12_best_42 : decode cX12_best 42 = .ok (.invokevirtual 411, 3) := by decide +kernel
theorem dX12_best_45 : decode cX12_best 45 = .ok (.aload_n 0, 1) := by decide +kernel
theorem dX12_best_46 : decode cX12_best 46 = .ok (.iload_n 1, 1) := by decide +kernel
theorem dX12_best_47 : decode cX12_best 47 = .ok (.iload_n 2, 1) := by decide +kernel
theorem dX12_best_48 : decode cX12_best 48 = .ok (.iconst 0, 1) := by decide +kernel
theorem dX12_best_49 : decode cX12_best 49 = .ok (.invokevirtual 411, 3) := by decide +kernel
theorem dX12_best_52 : decode cX12_best 52 = .ok (.if_icmp .le 7, 3) := by decide +kernel
theorem dX12_best_55 : decode cX12_best 55 = .ok (.iload_n 3, 1) := by decide +kernel
theorem dX12_best_56 : decode cX12_best 56 = .ok (.goto 4, 3) := by decide +kernel
theorem dX12_best_59 : decode cX12_best 59 = .ok (.iload_n 2, 1) := by decide +kernel
theorem dX12_best_60 : decode cX12_best 60 = .ok (.istore_n 2, 1) := by decide +kernel
theorem dX12_best_61 : decode cX12_best 61 = .ok (.iinc 3 1, 3) := by decide +kernel
theorem dX12_best_64 : decode cX12_best 64 = .ok (.goto (-50), 3) := by decide +kernel
theorem dX12_best_67 : decode cX12_best 67 = .ok (.iload_n 2, 1) := by decide +kernel
theorem dX12_best_68 : decode cX12_best 68 = .ok (.ireturn, 1) := by decide +kernel
set_option maxRecDepth 20000 in
def kX12_best_0 (g : sk_G) (d ck sk : Nat) (Q : sk_P) : sk_K := o_aload 0 (o_iload 1 (o_invT (g, d, ck, sk, xX12_best, Q) 2 1 12 (fun Q => kX12_isWriting_0 g (d - 1) 0 0 Q) (o_ifne (o_i (-1) (o_istore 2 (o_i (0) (o_istore 3 (sk_B (g, d, ck, sk, xX12_best, Q) 14))))) (o_i (-1) (o_iret (g, d, ck, sk, xX12_best, Q))))))
set_option maxRecDepth 20000 in
theorem tX12_best_0 {g : sk_G} {d ck sk : Nat} {Q : sk_P} : sk_S (g, d, ck, sk, xX12_best, Q) 0 (kX12_best_0 g d ck sk Q) := s_aload_n dX12_best_0 rfl (s_iload_n dX12_best_1 rfl (s_invT (X := xX12_isWriting) (ci := 12) (T := TX12) (N := 49) (K := (fun Q => kX12_isWriting_0 g (d - 1) 0 0 Q)) (fun _ => tX12_isWriting_0) rfl dX12_best_2 m_X12_isWriting rfl (by decide) qm_X12_343 qi_X12_isWriting qe_X12_isWriting (s_ifne (tgt := 10) dX12_best_5 (by decide) (s_iconst dX12_best_10 (s_istore_n dX12_best_11 rfl (by decide : 2 < 4) (s_iconst dX12_best_12 (s_istore_n dX12_best_13 rfl (by decide : 3 < 4) (sk_id))))) (s_iconst dX12_best_8 (s_iret dX12_best_9 rfl)))))
set_option maxRecDepth 20000 in
def kX12_best_14 (g : sk_G) (d ck sk : Nat) (Q : sk_P) : sk_K := o_iload 3 (o_i (4) (o_aload 0 (o_getf 12 23 (o_imul (o_icge (o_iload 2 (o_iret (g, d, ck, sk, xX12_best, Q))) (o_aload 0 (o_iload 1 (o_iload 3 (o_invB (g, d, ck, sk, xX12_best, Q) xX12_mayAt 2 12 0 0 (o_ifeq (o_iload 2 (o_istore 2 (o_iinc 3 (1) (sk_B (g, d, ck, sk, xX12_best, Q) 14)))) (o_iload 2 (o_i (-1) (o_iceq (o_iload 3 (o_istore 2 (o_iinc 3 (1) (sk_B (g, d, ck, sk, xX12_best, Q) 14)))) (o_aload 0 (o_iload 1 (o_iload 3 (o_i (0) (o_invB (g, d, ck, sk, xX12_best, Q) xX12_manyWho 3 12 0 0 (o_aload 0 (o_iload 1 (o_iload 2 (o_i (0) (o_invB (g, d, ck, sk, xX12_best, Q) xX12_manyWho 3 12 0 0 (o_icle (o_iload 2 (o_istore 2 (o_iinc 3 (1) (sk_B (g, d, ck, sk, xX12_best, Q) 14)))) (o_iload 3 (o_istore 2 (o_iinc 3 (1) (sk_B (g, d, ck, sk, xX12_best, Q) 14))))))))))))))))))))))))))))
set_option maxRecDepth 20000 in
theorem tX12_best_14 {g : sk_G} {d ck sk : Nat} {Q : sk_P} : sk_S (g, d, ck, sk, xX12_best, Q) 14 (kX12_best_14 g d ck sk Q) := s_iload_n dX12_best_14 rfl (s_iconst dX12_best_15 (s_aload_n dX12_best_16 rfl (s_getf (ci := 12) (j := 23) (C := RX12) (T := TX12) (N := 49) dX12_best_17 rfl (by decide) (by decide) qf_X12_273 (s_imul dX12_best_20 (s_icge (tgt := 67) dX12_best_21 (by decide) (s_iload_n dX12_best_67 rfl (s_iret dX12_best_68 rfl)) (s_aload_n dX12_best_24 rfl (s_iload_n dX12_best_25 rfl (s_iload_n dX12_best_26 rfl (s_invB (w' := (g, d, ck, sk, xX12_best, Q)) (ci := 12) (ck := 0) (sk := 0) (T := TX12) (N := 49) dX12_best_27 m_X12_mayAt rfl (by decide) qm_X12_414 qi_X12_mayAt qe_X12_mayAt rfl (s_ifeq (tgt := 59) dX12_best_30 (by decide) (s_iload_n dX12_best_59 rfl (s_istore_n dX12_best_60 rfl (by decide : 2 < 4) (s_iinc dX12_best_61 (by decide : 3 < 4) (s_goto (tgt := 14) dX12_best_64 (by decide) (sk_id))))) (s_iload_n dX12_best_33 rfl (s_iconst dX12_best_34 (s_iceq (tgt := 55) dX12_best_35 (by decide) (s_iload_n dX12_best_55 rfl (s_goto (tgt := 60) dX12_best_56 (by decide) (s_istore_n dX12_best_60 rfl (by decide : 2 < 4) (s_iinc dX12_best_61 (by decide : 3 < 4) (s_goto (tgt := 14) dX12_best_64 (by decide) (sk_id)))))) (s_aload_n dX12_best_38 rfl (s_iload_n dX12_best_39 rfl (s_iload_n dX12_best_40 rfl (s_iconst dX12_best_41 (s_invB (w' := (g, d, ck, sk, xX12_best, Q)) (ci := 12) (ck := 0) (sk := 0) (T := TX12) (N := 49) dX12_best_42 m_X12_manyWho rfl (by decide) qm_X12_411 qi_X12_manyWho qe_X12_manyWho rfl (s_aload_n dX12_best_45 rfl (s_iload_n dX12_best_46 rfl (s_iload_n dX12_best_47 rfl (s_iconst dX12_best_48 (s_invB (w' := (g, d, ck, sk, xX12_best, Q)) (ci := 12) (ck := 0) (sk := 0) (T := TX12) (N := 49) dX12_best_49 m_X12_manyWho rfl (by decide) qm_X12_411 qi_X12_manyWho qe_X12_manyWho rfl (s_icle (tgt := 59) dX12_best_52 (by decide) (s_iload_n dX12_best_59 rfl (s_istore_n dX12_best_60 rfl (by decide : 2 < 4) (s_iinc dX12_best_61 (by decide : 3 < 4) (s_goto (tgt := 14) dX12_best_64 (by decide) (sk_id))))) (s_iload_n dX12_best_55 rfl (s_goto (tgt := 60) dX12_best_56 (by decide) (s_istore_n dX12_best_60 rfl (by decide : 2 < 4) (s_iinc dX12_best_61 (by decide : 3 < 4) (s_goto (tgt := 14) dX12_best_64 (by decide) (sk_id))))))))))))))))))))))))))))))
theorem dX12_over_0 : decode cX12_over 0 = .ok (.aload_n 0, 1) := by decide +kernel
theorem dX12_over_1 : decode cX12_over 1 = .ok (.iload_n 1, 1) := by decide +kernel
theorem dX12_over_2 : decode cX12_over 2 = .ok (.invokevirtual 352, 3) := by decide +kernel
theorem dX12_over_5 : decode cX12_over 5 = .ok (.ifCond .eq 20, 3) := by decide +kernel
theorem dX12_over_8 : decode cX12_over 8 = .ok (.aload_n 0, 1) := by decide +kernel
theorem dX12_over_9 : decode cX12_over 9 = .ok (.iload_n 2, 1) := by decide +kernel
theorem dX12_over_10 : decode cX12_over 10 = .ok (.invokevirtual 352, 3) := by decide +kernel
theorem dX12_over_13 : decode cX12_over 13 = .ok (.ifCond .eq 12, 3) := by decide +kernel
theorem dX12_over_16 : decode cX12_over 16 = .ok (.aload_n 0, 1) := by decide +kernel
theorem dX12_over_17 : decode cX12_over 17 = .ok (.iload_n 1, 1) := by decide +kernel
theorem dX12_over_18 : decode cX12_over 18 = .ok (.iload_n 2, 1) := by decide +kernel
theorem dX12_over_19 : decode cX12_over 19 = .ok (.invokevirtual 417, 3) := by decide +kernel
theorem dX12_over_22 : decode cX12_over 22 = .ok (.goto 4, 3) := by decide +kernel
theorem dX12_over_25 : decode cX12_over 25 = .ok (.iconst (-1), 1) := by decide +kernel
theorem dX12_over_26 : decode cX12_over 26 = .ok (.ireturn, 1) := by decide +kernel
set_option maxRecDepth 20000 in
def kX12_over_0 (g : sk_G) (d ck sk : Nat) (Q : sk_P) : sk_K := o_aload 0 (o_iload 1 (o_invT (g, d, ck, sk, xX12_over, Q) 2 1 12 (fun Q => kX12_isHand_0 g (d - 1) 0 0 Q) (o_ifeq (o_i (-1) (o_iret (g, d, ck, sk, xX12_over, Q))) (o_aload 0 (o_iload 2 (o_invT (g, d, ck, sk, xX12_over, Q) 2 1 12 (fun Q => kX12_isHand_0 g (d - 1) 0 0 Q) (o_ifeq (o_i (-1) (o_iret (g, d, ck, sk, xX12_over, Q))) (o_aload 0 (o_iload 1 (o_iload 2 (o_invB (g, d, ck, sk, xX12_over, Q) xX12_overOf 2 12 0 0 (o_iret (g, d, ck, sk, xX12_over, Q)))))))))))))
set_option maxRecDepth 20000 in
theorem tX12_over_0 {g : sk_G} {d ck sk : Nat} {Q : sk_P} : sk_S (g, d, ck, sk, xX12_over, Q) 0 (kX12_over_0 g d ck sk Q) := s_aload_n dX12_over_0 rfl (s_iload_n dX12_over_1 rfl (s_invT (X := xX12_isHand) (ci := 12) (T := TX12) (N := 49) (K := (fun Q => kX12_isHand_0 g (d - 1) 0 0 Q)) (fun _ => tX12_isHand_0) rfl dX12_over_2 m_X12_isHand rfl (by decide) qm_X12_352 qi_X12_isHand qe_X12_isHand (s_ifeq (tgt := 25) dX12_over_5 (by decide) (s_iconst dX12_over_25 (s_iret dX12_over_26 rfl)) (s_aload_n dX12_over_8 rfl (s_iload_n dX12_over_9 rfl (s_invT (X := xX12_isHand) (ci := 12) (T := TX12) (N := 49) (K := (fun Q => kX12_isHand_0 g (d - 1) 0 0 Q)) (fun _ => tX12_isHand_0) rfl dX12_over_10 m_X12_isHand rfl (by decide) qm_X12_352 qi_X12_isHand qe_X12_isHand (s_ifeq (tgt := 25) dX12_over_13 (by decide) (s_iconst dX12_over_25 (s_iret dX12_over_26 rfl)) (s_aload_n dX12_over_16 rfl (s_iload_n dX12_over_17 rfl (s_iload_n dX12_over_18 rfl (s_invB (w' := (g, d, ck, sk, xX12_over, Q)) (ci := 12) (ck := 0) (sk := 0) (T := TX12) (N := 49) dX12_over_19 m_X12_overOf rfl (by decide) qm_X12_417 qi_X12_overOf qe_X12_overOf rfl (s_goto (tgt := 26) dX12_over_22 (by decide) (s_iret dX12_over_26 rfl)))))))))))))
theorem dX12_overOf_0 : decode cX12_overOf 0 = .ok (.iconst 0, 1) := by decide +kernel
theorem dX12_overOf_1 : decode cX12_overOf 1 = .ok (.istore_n 3, 1) := by decide +kernel
theorem dX12_overOf_2 : decode cX12_overOf 2 = .ok (.iconst 0, 1) := by decide +kernel
theorem dX12_overOf_3 : decode cX12_overOf 3 = .ok (.istore 4, 2) := by decide +kernel
theorem dX12_overOf_5 : decode cX12_overOf 5 = .ok (.iload 4, 2) := by decide +kernel
theorem dX12_overOf_7 : decode cX12_overOf 7 = .ok (.aload_n 0, 1) := by decide +kernel
theorem dX12_overOf_8 : decode cX12_overOf 8 = .ok (.getfield 273, 3) := by decide +kernel
theorem dX12_overOf_11 : decode cX12_overOf 11 = .ok (.if_icmp .ge 82, 3) := by decide +kernel
theorem dX12_overOf_14 : decode cX12_overOf 14 = .ok (.iconst 0, 1) := by decide +kernel
theorem dX12_overOf_15 : decode cX12_overOf 15 = .ok (.istore 5, 2) := by decide +kernel
theorem dX12_overOf_17 : decode cX12_overOf 17 = .ok (.iload 5, 2) := by decide +kernel
theorem dX12_overOf_19 : decode cX12_overOf 19 = .ok (.aload_n 0, 1) := by decide +kernel
theorem dX12_overOf_20 : decode cX12_overOf 20 = .ok (.getfield 61, 3) := by decide +kernel
theorem dX12_overOf_23 : decode cX12_overOf 23 = .ok (.iconst 0, 1) := by decide +kernel
theorem dX12_overOf_24 : decode cX12_overOf 24 = .ok (.iload 4, 2) := by decide +kernel
theorem dX12_overOf_26 : decode cX12_overOf 26 = .ok (.iadd, 1) := by decide +kernel
theorem dX12_overOf_27 : decode cX12_overOf 27 = .ok (.iaload, 1) := by decide +kernel
theorem dX12_overOf_28 : decode cX12_overOf 28 = .ok (.if_icmp .ge 59, 3) := by decide +kernel
theorem dX12_overOf_31 : decode cX12_overOf 31 = .ok (.iconst 0, 1) := by decide +kernel
theorem dX12_overOf_32 : decode cX12_overOf 32 = .ok (.istore 6, 2) := by decide +kernel
theorem dX12_overOf_34 : decode cX12_overOf 34 = .ok (.iload 6, 2) := by decide +kernel
theorem dX12_overOf_36 : decode cX12_overOf 36 = .ok (.iload 5, 2) := by decide +kernel
theorem dX12_overOf_38 : decode cX12_overOf 38 = .ok (.if_icmp .ge 43, 3) := by decide +kernel
theorem dX12_overOf_41 : decode cX12_overOf 41 = .ok (.iload_n 3, 1) := by decide +kernel
theorem dX12_overOf_42 : decode cX12_overOf 42 = .ok (.aload_n 0, 1) := by decide +kernel
theorem dX12_overOf_43 : decode cX12_overOf 43 = .ok (.iload 4, 2) := by decide +kernel
theorem dX12_overOf_45 : decode cX12_overOf 45 = .ok (.iload 5, 2) := by decide +kernel
theorem dX12_overOf_47 : decode cX12_overOf 47 = .ok (.iconst 1, 1) := by decide +kernel
theorem dX12_overOf_48 : decode cX12_overOf 48 = .ok (.invokevirtual 295, 3) := by decide +kernel
theorem dX12_overOf_51 : decode cX12_overOf 51 = .ok (.iload_n 1, 1) := by decide +kernel
theorem dX12_overOf_52 : decode cX12_overOf 52 = .ok (.if_icmp .ne 20, 3) := by decide +kernel
theorem dX12_overOf_55 : decode cX12_overOf 55 = .ok (.aload_n 0, 1) := by decide +kernel
theorem dX12_overOf_56 : decode cX12_overOf 56 = .ok (.iload 4, 2) := by decide +kernel
theorem dX12_overOf_58 : decode cX12_overOf 58 = .ok (.iload 6, 2) := by decide +kernel
theorem dX12_overOf_60 : decode cX12_overOf 60 = .ok (.iconst 1, 1) := by decide +kernel
theorem dX12_overOf_61 : decode cX12_overOf 61 = .ok (.invokevirtual 295, 3) := by decide +kernel
theorem dX12_overOf_64 : decode cX12_overOf 64 = .ok (.iload_n 2, 1) := by decide +kernel
theorem dX12_overOf_65 : decode cX12_overOf 65 = .ok (.if_icmp .ne 7, 3) := by decide +kernel
theorem dX12_overOf_68 : decode cX12_overOf 68 = .ok (.iconst 1, 1) := by decide +kernel
theorem dX12_overOf_69 : decode cX12_overOf 69 = .ok (.goto 4, 3) := by decide +kernel
theorem dX12_overOf_72 : decode cX12_overOf 72 = .ok (.iconst 0, 1) := by decide +kernel
theorem dX12_overOf_73 : decode cX12_overOf 73 = .ok (.iadd, 1) := by decide +kernel
theorem dX12_overOf_74 : decode cX12_overOf 74 = .ok (.istore_n 3, 1) := by decide +kernel
theorem dX12_overOf_75 : decode cX12_overOf 75 = .ok (.iinc 6 1, 3) := by decide +kernel
theorem dX12_overOf_78 : decode cX12_overOf 78 = .ok (.goto (-44), 3) := by decide +kernel
theorem dX12_overOf_81 : decode cX12_overOf 81 = .ok (.iinc 5 1, 3) := by decide +kernel
theorem dX12_overOf_84 : decode cX12_overOf 84 = .ok (.goto (-67), 3) := by decide +kernel
theorem dX12_overOf_87 : decode cX12_overOf 87 = .ok (.iinc 4 1, 3) := by decide +kernel
theorem dX12_overOf_90 : decode cX12_overOf 90 = .ok (.goto (-85), 3) := by decide +kernel
theorem dX12_overOf_93 : decode cX12_overOf 93 = .ok (.iload_n 3, 1) := by decide +kernel
theorem dX12_overOf_94 : decode cX12_overOf 94 = .ok (.ireturn, 1) := by decide +kernel
def kX12_overOf_0 (g : sk_G) (d ck sk : Nat) (Q : sk_P) : sk_K := o_i (0) (o_istore 3 (o_i (0) (o_istore 4 (sk_B (g, d, ck, sk, xX12_overOf, Q) 5))))
theorem tX12_overOf_0 {g : sk_G} {d ck sk : Nat} {Q : sk_P} : sk_S (g, d, ck, sk, xX12_overOf, Q) 0 (kX12_overOf_0 g d ck sk Q) := s_iconst dX12_overOf_0 (s_istore_n dX12_overOf_1 rfl (by decide : 3 < 7) (s_iconst dX12_overOf_2 (s_istore dX12_overOf_3 (by decide : 4 < 7) (sk_id))))
def kX12_overOf_5 (g : sk_G) (d ck sk : Nat) (Q : sk_P) : sk_K := o_iload 4 (o_aload 0 (o_getf 12 23 (o_icge (o_iload 3 (o_iret (g, d, ck, sk, xX12_overOf, Q))) (o_i (0) (o_istore 5 (sk_B (g, d, ck, sk, xX12_overOf, Q) 17))))))
theorem tX12_overOf_5 {g : sk_G} {d ck sk : Nat} {Q : sk_P} : sk_S (g, d, ck, sk, xX12_overOf, Q) 5 (kX12_overOf_5 g d ck sk Q) := s_iload dX12_overOf_5 (s_aload_n dX12_overOf_7 rfl (s_getf (ci := 12) (j := 23) (C := RX12) (T := TX12) (N := 49) dX12_overOf_8 rfl (by decide) (by decide) qf_X12_273 (s_icge (tgt := 93) dX12_overOf_11 (by decide) (s_iload_n dX12_overOf_93 rfl (s_iret dX12_overOf_94 rfl)) (s_iconst dX12_overOf_14 (s_istore dX12_overOf_15 (by decide : 5 < 7) (sk_id))))))
def kX12_overOf_17 (g : sk_G) (d ck sk : Nat) (Q : sk_P) : sk_K := o_iload 5 (o_aload 0 (o_getf 12 28 (o_i (0) (o_iload 4 (o_iadd (o_iaload (o_icge (o_iinc 4 (1) (sk_B (g, d, ck, sk, xX12_overOf, Q) 5)) (o_i (0) (o_istore 6 (sk_B (g, d, ck, sk, xX12_overOf, Q) 34))))))))))
theorem tX12_overOf_17 {g : sk_G} {d ck sk : Nat} {Q : sk_P} : sk_S (g, d, ck, sk, xX12_overOf, Q) 17 (kX12_overOf_17 g d ck sk Q) := s_iload dX12_overOf_17 (s_aload_n dX12_overOf_19 rfl (s_getf (ci := 12) (j := 28) (C := RX12) (T := TX12) (N := 49) dX12_overOf_20 rfl (by decide) (by decide) qf_X12_61 (s_iconst dX12_overOf_23 (s_iload dX12_overOf_24 (s_iadd dX12_overOf_26 (s_iaload dX12_overOf_27 (s_icge (tgt := 87) dX12_overOf_28 (by decide) (s_iinc dX12_overOf_87 (by decide : 4 < 7) (s_goto (tgt := 5) dX12_overOf_90 (by decide) (sk_id))) (s_iconst dX12_overOf_31 (s_istore dX12_overOf_32 (by decide : 6 < 7) (sk_id))))))))))
set_option maxRecDepth 20000 in
def kX12_overOf_34 (g : sk_G) (d ck sk : Nat) (Q : sk_P) : sk_K := o_iload 6 (o_iload 5 (o_icge (o_iinc 5 (1) (sk_B (g, d, ck, sk, xX12_overOf, Q) 17)) (o_iload 3 (o_aload 0 (o_iload 4 (o_iload 5 (o_i (1) (o_invT (g, d, ck, sk, xX12_overOf, Q) 4 3 12 (fun Q => kX12_of_0 g (d - 1) 0 0 Q) (o_iload 1 (o_icne (o_i (0) (o_iadd (o_istore 3 (o_iinc 6 (1) (sk_B (g, d, ck, sk, xX12_overOf, Q) 34))))) (o_aload 0 (o_iload 4 (o_iload 6 (o_i (1) (o_invT (g, d, ck, sk, xX12_overOf, Q) 4 3 12 (fun Q => kX12_of_0 g (d - 1) 0 0 Q) (o_iload 2 (o_icne (o_i (0) (o_iadd (o_istore 3 (o_iinc 6 (1) (sk_B (g, d, ck, sk, xX12_overOf, Q) 34))))) (o_i (1) (o_iadd (o_istore 3 (o_iinc 6 (1) (sk_B (g, d, ck, sk, xX12_overOf, Q) 34))))))))))))))))))))))
set_option maxRecDepth 20000 in
theorem tX12_overOf_34 {g : sk_G} {d ck sk : Nat} {Q : sk_P} : sk_S (g, d, ck, sk, xX12_overOf, Q) 34 (kX12_overOf_34 g d ck sk Q) := s_iload dX12_overOf_34 (s_iload dX12_overOf_36 (s_icge (tgt := 81) dX12_overOf_38 (by decide) (s_iinc dX12_overOf_81 (by decide : 5 < 7) (s_goto (tgt := 17) dX12_overOf_84 (by decide) (sk_id))) (s_iload_n dX12_overOf_41 rfl (s_aload_n dX12_overOf_42 rfl (s_iload dX12_overOf_43 (s_iload dX12_overOf_45 (s_iconst dX12_overOf_47 (s_invT (X := xX12_of) (ci := 12) (T := TX12) (N := 49) (K := (fun Q => kX12_of_0 g (d - 1) 0 0 Q)) (fun _ => tX12_of_0) rfl dX12_overOf_48 m_X12_of rfl (by decide) qm_X12_295 qi_X12_of qe_X12_of (s_iload_n dX12_overOf_51 rfl (s_icne (tgt := 72) dX12_overOf_52 (by decide) (s_iconst dX12_overOf_72 (s_iadd dX12_overOf_73 (s_istore_n dX12_overOf_74 rfl (by decide : 3 < 7) (s_iinc dX12_overOf_75 (by decide : 6 < 7) (s_goto (tgt := 34) dX12_overOf_78 (by decide) (sk_id)))))) (s_aload_n dX12_overOf_55 rfl (s_iload dX12_overOf_56 (s_iload dX12_overOf_58 (s_iconst dX12_overOf_60 (s_invT (X := xX12_of) (ci := 12) (T := TX12) (N := 49) (K := (fun Q => kX12_of_0 g (d - 1) 0 0 Q)) (fun _ => tX12_of_0) rfl dX12_overOf_61 m_X12_of rfl (by decide) qm_X12_295 qi_X12_of qe_X12_of (s_iload_n dX12_overOf_64 rfl (s_icne (tgt := 72) dX12_overOf_65 (by decide) (s_iconst dX12_overOf_72 (s_iadd dX12_overOf_73 (s_istore_n dX12_overOf_74 rfl (by decide : 3 < 7) (s_iinc dX12_overOf_75 (by decide : 6 < 7) (s_goto (tgt := 34) dX12_overOf_78 (by decide) (sk_id)))))) (s_iconst dX12_overOf_68 (s_goto (tgt := 73) dX12_overOf_69 (by decide) (s_iadd dX12_overOf_73 (s_istore_n dX12_overOf_74 rfl (by decide : 3 < 7) (s_iinc dX12_overOf_75 (by decide : 6 < 7) (s_goto (tgt := 34) dX12_overOf_78 (by decide) (sk_id))))))))))))))))))))))))
theorem dX12_order_0 : decode cX12_order 0 = .ok (.aload_n 0, 1) := by decide +kernel
theorem dX12_order_1 : decode cX12_order 1 = .ok (.getfield 273, 3) := by decide +kernel
theorem dX12_order_4 : decode cX12_order 4 = .ok (.ifCond .eq 12, 3) := by decide +kernel
theorem dX12_order_7 : decode cX12_order 7 = .ok (.iload_n 1, 1) := by decide +kernel
theorem dX12_order_8 : decode cX12_order 8 = .ok (.iconst 0, 1) := by decide +kernel
theorem dX12_order_9 : decode cX12_order 9 = .ok (.iconst 1, 1) := by decide +kernel
theorem dX12_order_10 : decode cX12_order 10 = .ok (.invokestatic 224, 3) := by decide +kernel
theorem dX12_order_13 : decode cX12_order 13 = .ok (.ifCond .ne 5, 3) := by decide +kernel
theorem dX12_order_16 : decode cX12_order 16 = .ok (.iconst (-1), 1) := by decide +kernel
theorem dX12_order_17 : decode cX12_order 17 = .ok (.ireturn, 1) := by decide +kernel
theorem dX12_order_18 : decode cX12_order 18 = .ok (.aload_n 0, 1) := by decide +kernel
theorem dX12_order_19 : decode cX12_order 19 = .ok (.iconst (-1), 1) := by decide +kernel
theorem dX12_order_20 : decode cX12_order 20 = .ok (.putfield 420, 3) := by decide +kernel
theorem dX12_order_23 : decode cX12_order 23 = .ok (.aload_n 0, 1) := by decide +kernel
theorem dX12_order_24 : decode cX12_order 24 = .ok (.iconst 0, 1) := by decide +kernel
theorem dX12_order_25 : decode cX12_order 25 = .ok (.iconst 0, 1) := by decide +kernel
theorem dX12_order_26 : decode cX12_order 26 = .ok (.iconst 0, 1) := by decide +kernel
theorem dX12_order_27 : decode cX12_order 27 = .ok (.iconst 0, 1) := by decide +kernel
theorem dX12_order_28 : decode cX12_order 28 = .ok (.invokevirtual 426, 3) := by decide +kernel
theorem dX12_order_31 : decode cX12_order 31 = .ok (.iload_n 1, 1) := by decide +kernel
theorem dX12_order_32 : decode cX12_order 32 = .ok (.ifCond .ne 10, 3) := by decide +kernel
theorem dX12_order_35 : decode cX12_order 35 = .ok (.aload_n 0, 1) := by decide +kernel
theorem dX12_order_36 : decode cX12_order 36 = .ok (.getfield 420, 3) := by decide +kernel
theorem dX12_order_39 : decode cX12_order 39 = .ok (.goto 7, 3) := by decide +kernel
theorem dX12_order_42 : decode cX12_order 42 = .ok (.aload_n 0, 1) := by decide +kernel
theorem dX12_order_43 : decode cX12_order 43 = .ok (.getfield 423, 3) := by decide +kernel
theorem dX12_order_46 : decode cX12_order 46 = .ok (.ireturn, 1) := by decide +kernel
set_option maxRecDepth 20000 in
def kX12_order_0 (g : sk_G) (d ck sk : Nat) (Q : sk_P) : sk_K := o_aload 0 (o_getf 12 23 (o_ifeq (o_i (-1) (o_iret (g, d, ck, sk, xX12_order, Q))) (o_iload 1 (o_i (0) (o_i (1) (o_stcT (g, d, ck, sk, xX12_order, Q) 3 3 (fun Q => kX12_in_0 g (d - 1) 0 0 Q) (o_ifne (o_aload 0 (o_i (-1) (o_puti 12 35 (o_aload 0 (o_i (0) (o_i (0) (o_i (0) (o_i (0) (o_invB (g, d, ck, sk, xX12_order, Q) xX12_tryOrder 4 12 0 0 (o_iload 1 (o_ifne (o_aload 0 (o_getf 12 36 (o_iret (g, d, ck, sk, xX12_order, Q)))) (o_aload 0 (o_getf 12 35 (o_iret (g, d, ck, sk, xX12_order, Q))))))))))))))) (o_i (-1) (o_iret (g, d, ck, sk, xX12_order, Q))))))))))
set_option maxRecDepth 20000 in
theorem tX12_order_0 {g : sk_G} {d ck sk : Nat} {Q : sk_P} : sk_S (g, d, ck, sk, xX12_order, Q) 0 (kX12_order_0 g d ck sk Q) := s_aload_n dX12_order_0 rfl (s_getf (ci := 12) (j := 23) (C := RX12) (T := TX12) (N := 49) dX12_order_1 rfl (by decide) (by decide) qf_X12_273 (s_ifeq (tgt := 16) dX12_order_4 (by decide) (s_iconst dX12_order_16 (s_iret dX12_order_17 rfl)) (s_iload_n dX12_order_7 rfl (s_iconst dX12_order_8 (s_iconst dX12_order_9 (s_stcT (X := xX12_in) (K := (fun Q => kX12_in_0 g (d - 1) 0 0 Q)) (fun _ => tX12_in_0) rfl dX12_order_10 m_X12_in qm_X12_224 qs_X12_in (s_ifne (tgt := 18) dX12_order_13 (by decide) (s_aload_n dX12_order_18 rfl (s_iconst dX12_order_19 (s_puti (ci := 12) (j := 35) (C := RX12) (T := TX12) (N := 49) dX12_order_20 rfl (by decide) (by decide) rfl (tyX12_ok 35 (by decide)) qf_X12_420 (s_aload_n dX12_order_23 rfl (s_iconst dX12_order_24 (s_iconst dX12_order_25 (s_iconst dX12_order_26 (s_iconst dX12_order_27 (s_invB (w' := (g, d, ck, sk, xX12_order, Q)) (ci := 12) (ck := 0) (sk := 0) (T := TX12) (N := 49) dX12_order_28 m_X12_tryOrder rfl (by decide) qm_X12_426 qi_X12_tryOrder qe_X12_tryOrder rfl (s_iload_n dX12_order_31 rfl (s_ifne (tgt := 42) dX12_order_32 (by decide) (s_aload_n dX12_order_42 rfl (s_getf (ci := 12) (j := 36) (C := RX12) (T := TX12) (N := 49) dX12_order_43 rfl (by decide) (by decide) qf_X12_423 (s_iret dX12_order_46 rfl))) (s_aload_n dX12_order_35 rfl (s_getf (ci := 12) (j := 35) (C := RX12) (T := TX12) (N := 49) dX12_order_36 rfl (by decide) (by decide) qf_X12_420 (s_goto (tgt := 46) dX12_order_39 (by decide) (s_iret dX12_order_46 rfl))))))))))))))) (s_iconst dX12_order_16 (s_iret dX12_order_17 rfl)))))))))
theorem dX12_tryOrder_0 : decode cX12_tryOrder 0 = .ok (.iload_n 1, 1) := by decide +kernel
theorem dX12_tryOrder_1 : decode cX12_tryOrder 1 = .ok (.aload_n 0, 1) := by decide +kernel
theorem dX12_tryOrder_2 : decode cX12_tryOrder 2 = .ok (.getfield 270, 3) := by decide +kernel
theorem dX12_tryOrder_5 : decode cX12_tryOrder 5 = .ok (.if_icmp .ne 32, 3) := by decide +kernel
theorem dX12_tryOrder_8 : decode cX12_tryOrder 8 = .ok (.aload_n 0, 1) := by decide +kernel
theorem dX12_tryOrder_9 : decode cX12_tryOrder 9 = .ok (.getfield 420, 3) := by decide +kernel
theorem dX12_tryOrder_12 : decode cX12_tryOrder 12 = .ok (.iconst (-1), 1) := by decide +kernel
theorem dX12_tryOrder_13 : decode cX12_tryOrder 13 = .ok (.if_icmp .eq 12, 3) := by decide +kernel
theorem dX12_tryOrder_16 : decode cX12_tryOrder 16 = .ok (.iload 4, 2) := by decide +kernel
theorem dX12_tryOrder_18 : decode cX12_tryOrder 18 = .ok (.aload_n 0, 1) := by decide +kernel
theorem dX12_tryOrder_19 : decode cX12_tryOrder 19 = .ok (.getfield 423, 3) := by decide +kernel
theorem dX12_tryOrder_22 : decode cX12_tryOrder 22 = .ok (.if_icmp .ge 14, 3) := by decide +kernel
theorem dX12_tryOrder_25 : decode cX12_tryOrder 25 = .ok (.aload_n 0, 1) := by decide +kernel
theorem dX12_tryOrder_26 : decode cX12_tryOrder 26 = .ok (.iload_n 3, 1) := by decide +kernel
theorem dX12_tryOrder_27 : decode cX12_tryOrder 27 = .ok (.putfield 420, 3) := by decide +kernel
theorem dX12_tryOrder_30 : decode cX12_tryOrder 30 = .ok (.aload_n 0, 1) := by decide +kernel
theorem dX12_tryOrder_31 : decode cX12_tryOrder 31 = .ok (.iload 4, 2) := by decide +kernel
theorem dX12_tryOrder_33 : decode cX12_tryOrder 33 = .ok (.putfield 423, 3) := by decide +kernel
theorem dX12_tryOrder_36 : decode cX12_tryOrder 36 = .ok (.return_, 1) := by decide +kernel
theorem dX12_tryOrder_37 : decode cX12_tryOrder 37 = .ok (.iconst 0, 1) := by decide +kernel
theorem dX12_tryOrder_38 : decode cX12_tryOrder 38 = .ok (.istore 5, 2) := by decide +kernel
theorem dX12_tryOrder_40 : decode cX12_tryOrder 40 = .ok (.iload 5, 2) := by decide +kernel
theorem dX12_tryOrder_42 : decode cX12_tryOrder 42 = .ok (.aload_n 0, 1) := by decide +kernel
theorem dX12_tryOrder_43 : decode cX12_tryOrder 43 = .ok (.getfield 270, 3) := by decide +kernel
theorem dX12_tryOrder_46 : decode cX12_tryOrder 46 = .ok (.if_icmp .ge 87, 3) := by decide +kernel
theorem dX12_tryOrder_49 : decode cX12_tryOrder 49 = .ok (.iload_n 2, 1) := by decide +kernel
theorem dX12_tryOrder_50 : decode cX12_tryOrder 50 = .ok (.iload 5, 2) := by decide +kernel
theorem dX12_tryOrder_52 : decode cX12_tryOrder 52 = .ok (.invokestatic 235, 3) := by decide +kernel
theorem dX12_tryOrder_55 : decode cX12_tryOrder 55 = .ok (.ifCond .ne 72, 3) := by decide +kernel
theorem dX12_tryOrder_58 : decode cX12_tryOrder 58 = .ok (.iconst 0, 1) := by decide +kernel
theorem dX12_tryOrder_59 : decode cX12_tryOrder 59 = .ok (.istore 6, 2) := by decide +kernel
theorem dX12_tryOrder_61 : decode cX12_tryOrder 61 = .ok (.iconst 0, 1) := by decide +kernel
theorem dX12_tryOrder_62 : decode cX12_tryOrder 62 = .ok (.istore 7, 2) := by decide +kernel
theorem dX12_tryOrder_64 : decode cX12_tryOrder 64 = .ok (.iload 7, 2) := by decide +kernel
theorem dX12_tryOrder_66 : decode cX12_tryOrder 66 = .ok (.iload_n 1, 1) := by decide +kernel
theorem dX12_tryOrder_67 : decode cX12_tryOrder 67 = .ok (.if_icmp .ge 27, 3) := by decide +kernel
theorem dX12_tryOrder_70 : decode cX12_tryOrder 70 = .ok (.iload 6, 2) := by decide +kernel
theorem dX12_tryOrder_72 : decode cX12_tryOrder 72 = .ok (.aload_n 0, 1) := by decide +kernel
theorem dX12_tryOrder_73 : decode cX12_tryOrder 73 = .ok (.aload_n 0, 1) := by decide +kernel
theorem dX12_tryOrder_74 : decode cX12_tryOrder 74 = .ok (.getfield 78, 3) := by decide +kernel
theorem dX12_tryOrder_77 : decode cX12_tryOrder 77 = .ok (.iload 7, 2) := by decide +kernel
theorem dX12_tryOrder_79 : decode cX12_tryOrder 79 = .ok (.iaload, 1) := by decide +kernel
theorem dX12_tryOrder_80 : decode cX12_tryOrder 80 = .ok (.iload 5, 2) := by decide +kernel
theorem dX12_tryOrder_82 : decode cX12_tryOrder 82 = .ok (.invokevirtual 417, 3) := by decide +kernel
theorem dX12_tryOrder_85 : decode cX12_tryOrder 85 = .ok (.iadd, 1) := by decide +kernel
theorem dX12_tryOrder_86 : decode cX12_tryOrder 86 = .ok (.istore 6, 2) := by decide +kernel
theorem dX12_tryOrder_88 : decode cX12_tryOrder 88 = .ok (.iinc 7 1, 3) := by decide +kernel
theorem dX12_tryOrder_91 : decode cX12_tryOrder 91 = .ok (.goto (-27), 3) := by decide +kernel
theorem dX12_tryOrder_94 : decode cX12_tryOrder 94 = .ok (.aload_n 0, 1) := by decide +kernel
theorem dX12_tryOrder_95 : decode cX12_tryOrder 95 = .ok (.getfield 78, 3) := by decide +kernel
theorem dX12_tryOrder_98 : decode cX12_tryOrder 98 = .ok (.iload_n 1, 1) := by decide +kernel
theorem dX12_tryOrder_99 : decode cX12_tryOrder 99 = .ok (.iload 5, 2) := by decide +kernel
theorem dX12_tryOrder_101 : decode cX12_tryOrder 101 = .ok (.iastore, 1) := by decide +kernel
theorem dX12_tryOrder_102 : decode cX12_tryOrder 102 = .ok (.aload_n 0, 1) := by decide +kernel
theorem dX12_tryOrder_103 : decode cX12_tryOrder 103 = .ok (.iload_n 1, 1) := by decide +kernel
theorem dX12_tryOrder_104 : decode cX12_tryOrder 104 = .ok (.iconst 1, 1) := by decide +kernel
theorem dX12_tryOrder_105 : decode cX12_tryOrder 105 = .ok (.iadd, 1) := by decide +kernel
theorem dX12_tryOrder_106 : decode cX12_tryOrder 106 = .ok (.iload_n 2, 1) := by decide +kernel
theorem dX12_tryOrder_107 : decode cX12_tryOrder 107 = .ok (.iconst 1, 1) := by decide +kernel
theorem dX12_tryOrder_108 : decode cX12_tryOrder 108 = .ok (.iload 5, 2) := by decide +kernel
theorem dX12_tryOrder_110 : decode cX12_tryOrder 110 = .ok (.ishl, 1) := by decide +kernel
theorem dX12_tryOrder_111 : decode cX12_tryOrder 111 = .ok (.ior, 1) := by decide +kernel
theorem dX12_tryOrder_112 : decode cX12_tryOrder 112 = .ok (.bipush 10, 2) := by decide +kernel
theorem dX12_tryOrder_114 : decode cX12_tryOrder 114 = .ok (.iload_n 3, 1) := by decide +kernel
theorem dX12_tryOrder_115 : decode cX12_tryOrder 115 = .ok (.imul, 1) := by decide +kernel
theorem dX12_tryOrder_116 : decode cX12_tryOrder 116 = .ok (.iload 5, 2) := by decide +kernel
theorem dX12_tryOrder_118 : decode cX12_tryOrder 118 = .ok (.iadd, 1) := by decide +kernel
theorem dX12_tryOrder_119 : decode cX12_tryOrder 119 = .ok (.iload 4, 2) := by decide +kernel
theorem dX12_tryOrder_121 : decode cX12_tryOrder 121 = .ok (.iload 6, 2) := by decide +kernel
theorem dX12_tryOrder_123 : decode cX12_tryOrder 123 = .ok (.iadd, 1) := by decide +kernel
theorem dX12_tryOrder_124 : decode cX12_tryOrder 124 = .ok (.invokevirtual 426, 3) := by decide +kernel
theorem dX12_tryOrder_127 : decode cX12_tryOrder 127 = .ok (.iinc 5 1, 3) := by decide +kernel
theorem dX12_tryOrder_130 : decode cX12_tryOrder 130 = .ok (.goto (-90), 3) := by decide +kernel
theorem dX12_tryOrder_133 : decode cX12_tryOrder 133 = .ok (.return_, 1) := by decide +kernel
set_option maxRecDepth 20000 in
def kX12_tryOrder_0 (g : sk_G) (d ck sk : Nat) (Q : sk_P) : sk_K := o_iload 1 (o_aload 0 (o_getf 12 22 (o_icne (o_i (0) (o_istore 5 (sk_B (g, d, ck, sk, xX12_tryOrder, Q) 40))) (o_aload 0 (o_getf 12 35 (o_i (-1) (o_iceq (sk_B (g, d, ck, sk, xX12_tryOrder, Q) 25) (o_iload 4 (o_aload 0 (o_getf 12 36 (o_icge (o_ret (g, d, ck, sk, xX12_tryOrder, Q)) (sk_B (g, d, ck, sk, xX12_tryOrder, Q) 25))))))))))))
set_option maxRecDepth 20000 in
theorem tX12_tryOrder_0 {g : sk_G} {d ck sk : Nat} {Q : sk_P} : sk_S (g, d, ck, sk, xX12_tryOrder, Q) 0 (kX12_tryOrder_0 g d ck sk Q) := s_iload_n dX12_tryOrder_0 rfl (s_aload_n dX12_tryOrder_1 rfl (s_getf (ci := 12) (j := 22) (C := RX12) (T := TX12) (N := 49) dX12_tryOrder_2 rfl (by decide) (by decide) qf_X12_270 (s_icne (tgt := 37) dX12_tryOrder_5 (by decide) (s_iconst dX12_tryOrder_37 (s_istore dX12_tryOrder_38 (by decide : 5 < 8) (sk_id))) (s_aload_n dX12_tryOrder_8 rfl (s_getf (ci := 12) (j := 35) (C := RX12) (T := TX12) (N := 49) dX12_tryOrder_9 rfl (by decide) (by decide) qf_X12_420 (s_iconst dX12_tryOrder_12 (s_iceq (tgt := 25) dX12_tryOrder_13 (by decide) (sk_id) (s_iload dX12_tryOrder_16 (s_aload_n dX12_tryOrder_18 rfl (s_getf (ci := 12) (j := 36) (C := RX12) (T := TX12) (N := 49) dX12_tryOrder_19 rfl (by decide) (by decide) qf_X12_423 (s_icge (tgt := 36) dX12_tryOrder_22 (by decide) (s_ret dX12_tryOrder_36 rfl) (sk_id))))))))))))
def kX12_tryOrder_25 (g : sk_G) (d ck sk : Nat) (Q : sk_P) : sk_K := o_aload 0 (o_iload 3 (o_puti 12 35 (o_aload 0 (o_iload 4 (o_puti 12 36 (o_ret (g, d, ck, sk, xX12_tryOrder, Q)))))))
theorem tX12_tryOrder_25 {g : sk_G} {d ck sk : Nat} {Q : sk_P} : sk_S (g, d, ck, sk, xX12_tryOrder, Q) 25 (kX12_tryOrder_25 g d ck sk Q) := s_aload_n dX12_tryOrder_25 rfl (s_iload_n dX12_tryOrder_26 rfl (s_puti (ci := 12) (j := 35) (C := RX12) (T := TX12) (N := 49) dX12_tryOrder_27 rfl (by decide) (by decide) rfl (tyX12_ok 35 (by decide)) qf_X12_420 (s_aload_n dX12_tryOrder_30 rfl (s_iload dX12_tryOrder_31 (s_puti (ci := 12) (j := 36) (C := RX12) (T := TX12) (N := 49) dX12_tryOrder_33 rfl (by decide) (by decide) rfl (tyX12_ok 36 (by decide)) qf_X12_423 (s_ret dX12_tryOrder_36 rfl))))))
set_option maxRecDepth 20000 in
def kX12_tryOrder_40 (g : sk_G) (d ck sk : Nat) (Q : sk_P) : sk_K := o_iload 5 (o_aload 0 (o_getf 12 22 (o_icge (o_ret (g, d, ck, sk, xX12_tryOrder, Q)) (o_iload 2 (o_iload 5 (o_stcT (g, d, ck, sk, xX12_tryOrder, Q) 2 2 (fun Q => kX12_has_0 g (d - 1) 0 0 Q) (o_ifne (o_iinc 5 (1) (sk_B (g, d, ck, sk, xX12_tryOrder, Q) 40)) (o_i (0) (o_istore 6 (o_i (0) (o_istore 7 (sk_B (g, d, ck, sk, xX12_tryOrder, Q) 64))))))))))))
set_option maxRecDepth 20000 in
theorem tX12_tryOrder_40 {g : sk_G} {d ck sk : Nat} {Q : sk_P} : sk_S (g, d, ck, sk, xX12_tryOrder, Q) 40 (kX12_tryOrder_40 g d ck sk Q) := s_iload dX12_tryOrder_40 (s_aload_n dX12_tryOrder_42 rfl (s_getf (ci := 12) (j := 22) (C := RX12) (T := TX12) (N := 49) dX12_tryOrder_43 rfl (by decide) (by decide) qf_X12_270 (s_icge (tgt := 133) dX12_tryOrder_46 (by decide) (s_ret dX12_tryOrder_133 rfl) (s_iload_n dX12_tryOrder_49 rfl (s_iload dX12_tryOrder_50 (s_stcT (X := xX12_has) (K := (fun Q => kX12_has_0 g (d - 1) 0 0 Q)) (fun _ => tX12_has_0) rfl dX12_tryOrder_52 m_X12_has qm_X12_235 qs_X12_has (s_ifne (tgt := 127) dX12_tryOrder_55 (by decide) (s_iinc dX12_tryOrder_127 (by decide : 5 < 8) (s_goto (tgt := 40) dX12_tryOrder_130 (by decide) (sk_id))) (s_iconst dX12_tryOrder_58 (s_istore dX12_tryOrder_59 (by decide : 6 < 8) (s_iconst dX12_tryOrder_61 (s_istore dX12_tryOrder_62 (by decide : 7 < 8) (sk_id))))))))))))
set_option maxRecDepth 20000 in
def kX12_tryOrder_64 (g : sk_G) (d ck sk : Nat) (Q : sk_P) : sk_K := o_iload 7 (o_iload 1 (o_icge (o_aload 0 (o_getf 12 37 (o_iload 1 (o_iload 5 (o_iastore (o_aload 0 (o_iload 1 (o_i (1) (o_iadd (o_iload 2 (o_i (1) (o_iload 5 (o_ishl (o_ior (o_i (10) (o_iload 3 (o_imul (o_iload 5 (o_iadd (o_iload 4 (o_iload 6 (o_iadd (o_invB (g, d, ck, sk, xX12_tryOrder, Q) xX12_tryOrder 4 12 0 0 (o_iinc 5 (1) (sk_B (g, d, ck, sk, xX12_tryOrder, Q) 40))))))))))))))))))))))))) (o_iload 6 (o_aload 0 (o_aload 0 (o_getf 12 37 (o_iload 7 (o_iaload (o_iload 5 (o_invB (g, d, ck, sk, xX12_tryOrder, Q) xX12_overOf 2 12 0 0 (o_iadd (o_istore 6 (o_iinc 7 (1) (sk_B (g, d, ck, sk, xX12_tryOrder, Q) 64))))))))))))))
set_option maxRecDepth 20000 in
theorem tX12_tryOrder_64 {g : sk_G} {d ck sk : Nat} {Q : sk_P} : sk_S (g, d, ck, sk, xX12_tryOrder, Q) 64 (kX12_tryOrder_64 g d ck sk Q) := s_iload dX12_tryOrder_64 (s_iload_n dX12_tryOrder_66 rfl (s_icge (tgt := 94) dX12_tryOrder_67 (by decide) (s_aload_n dX12_tryOrder_94 rfl (s_getf (ci := 12) (j := 37) (C := RX12) (T := TX12) (N := 49) dX12_tryOrder_95 rfl (by decide) (by decide) qf_X12_78 (s_iload_n dX12_tryOrder_98 rfl (s_iload dX12_tryOrder_99 (s_iastore dX12_tryOrder_101 (s_aload_n dX12_tryOrder_102 rfl (s_iload_n dX12_tryOrder_103 rfl (s_iconst dX12_tryOrder_104 (s_iadd dX12_tryOrder_105 (s_iload_n dX12_tryOrder_106 rfl (s_iconst dX12_tryOrder_107 (s_iload dX12_tryOrder_108 (s_ishl dX12_tryOrder_110 (s_ior dX12_tryOrder_111 (s_bipush dX12_tryOrder_112 rfl (s_iload_n dX12_tryOrder_114 rfl (s_imul dX12_tryOrder_115 (s_iload dX12_tryOrder_116 (s_iadd dX12_tryOrder_118 (s_iload dX12_tryOrder_119 (s_iload dX12_tryOrder_121 (s_iadd dX12_tryOrder_123 (s_invB (w' := (g, d, ck, sk, xX12_tryOrder, Q)) (ci := 12) (ck := 0) (sk := 0) (T := TX12) (N := 49) dX12_tryOrder_124 m_X12_tryOrder rfl (by decide) qm_X12_426 qi_X12_tryOrder qe_X12_tryOrder rfl (s_iinc dX12_tryOrder_127 (by decide : 5 < 8) (s_goto (tgt := 40) dX12_tryOrder_130 (by decide) (sk_id)))))))))))))))))))))))))) (s_iload dX12_tryOrder_70 (s_aload_n dX12_tryOrder_72 rfl (s_aload_n dX12_tryOrder_73 rfl (s_getf (ci := 12) (j := 37) (C := RX12) (T := TX12) (N := 49) dX12_tryOrder_74 rfl (by decide) (by decide) qf_X12_78 (s_iload dX12_tryOrder_77 (s_iaload dX12_tryOrder_79 (s_iload dX12_tryOrder_80 (s_invB (w' := (g, d, ck, sk, xX12_tryOrder, Q)) (ci := 12) (ck := 0) (sk := 0) (T := TX12) (N := 49) dX12_tryOrder_82 m_X12_overOf rfl (by decide) qm_X12_417 qi_X12_overOf qe_X12_overOf rfl (s_iadd dX12_tryOrder_85 (s_istore dX12_tryOrder_86 (by decide : 6 < 8) (s_iinc dX12_tryOrder_88 (by decide : 7 < 8) (s_goto (tgt := 64) dX12_tryOrder_91 (by decide) (sk_id)))))))))))))))
theorem dX12_lost_0 : decode cX12_lost 0 = .ok (.aload_n 0, 1) := by decide +kernel
theorem dX12_lost_1 : decode cX12_lost 1 = .ok (.iload_n 1, 1) := by decide +kernel
theorem dX12_lost_2 : decode cX12_lost 2 = .ok (.iload_n 2, 1) := by decide +kernel
theorem dX12_lost_3 : decode cX12_lost 3 = .ok (.invokevirtual 408, 3) := by decide +kernel
theorem dX12_lost_6 : decode cX12_lost 6 = .ok (.ifCond .eq 13, 3) := by decide +kernel
theorem dX12_lost_9 : decode cX12_lost 9 = .ok (.iload_n 3, 1) := by decide +kernel
theorem dX12_lost_10 : decode cX12_lost 10 = .ok (.iconst 1, 1) := by decide +kernel
theorem dX12_lost_11 : decode cX12_lost 11 = .ok (.bipush 16, 2) := by decide +kernel
theorem dX12_lost_13 : decode cX12_lost 13 = .ok (.invokestatic 224, 3) := by decide +kernel
theorem dX12_lost_16 : decode cX12_lost 16 = .ok (.ifCond .ne 5, 3) := by decide +kernel
theorem dX12_lost_19 : decode cX12_lost 19 = .ok (.iconst (-1), 1) := by decide +kernel
theorem dX12_lost_20 : decode cX12_lost 20 = .ok (.ireturn, 1) := by decide +kernel
theorem dX12_lost_21 : decode cX12_lost 21 = .ok (.aload_n 0, 1) := by decide +kernel
theorem dX12_lost_22 : decode cX12_lost 22 = .ok (.iload_n 1, 1) := by decide +kernel
theorem dX12_lost_23 : decode cX12_lost 23 = .ok (.iload_n 2, 1) := by decide +kernel
theorem dX12_lost_24 : decode cX12_lost 24 = .ok (.invokevirtual 438, 3) := by decide +kernel
theorem dX12_lost_27 : decode cX12_lost 27 = .ok (.iconst 0, 1) := by decide +kernel
theorem dX12_lost_28 : decode cX12_lost 28 = .ok (.istore 4, 2) := by decide +kernel
theorem dX12_lost_30 : decode cX12_lost 30 = .ok (.iload 4, 2) := by decide +kernel
theorem dX12_lost_32 : decode cX12_lost 32 = .ok (.bipush 16, 2) := by decide +kernel
theorem dX12_lost_34 : decode cX12_lost 34 = .ok (.if_icmp .gt 28, 3) := by decide +kernel
theorem dX12_lost_37 : decode cX12_lost 37 = .ok (.aload_n 0, 1) := by decide +kernel
theorem dX12_lost_38 : decode cX12_lost 38 = .ok (.getfield 87, 3) := by decide +kernel
theorem dX12_lost_41 : decode cX12_lost 41 = .ok (.iload 4, 2) := by decide +kernel
theorem dX12_lost_43 : decode cX12_lost 43 = .ok (.iload 4, 2) := by decide +kernel
theorem dX12_lost_45 : decode cX12_lost 45 = .ok (.ifCond .ne 7, 3) := by decide +kernel
theorem dX12_lost_48 : decode cX12_lost 48 = .ok (.iconst 0, 1) := by decide +kernel
theorem dX12_lost_49 : decode cX12_lost 49 = .ok (.goto 6, 3) := by decide +kernel
theorem dX12_lost_52 : decode cX12_lost 52 = .ok (.ldc_w 441, 3) := by decide +kernel
theorem dX12_lost_55 : decode cX12_lost 55 = .ok (.iastore, 1) := by decide +kernel
theorem dX12_lost_56 : decode cX12_lost 56 = .ok (.iinc 4 1, 3) := by decide +kernel
theorem dX12_lost_59 : decode cX12_lost 59 = .ok (.goto (-29), 3) := by decide +kernel
theorem dX12_lost_62 : decode cX12_lost 62 = .ok (.iconst 0, 1) := by decide +kernel
theorem dX12_lost_63 : decode cX12_lost 63 = .ok (.istore 4, 2) := by decide +kernel
theorem dX12_lost_65 : decode cX12_lost 65 = .ok (.iload 4, 2) := by decide +kernel
theorem dX12_lost_67 : decode cX12_lost 67 = .ok (.aload_n 0, 1) := by decide +kernel
theorem dX12_lost_68 : decode cX12_lost 68 = .ok (.getfield 46, 3) := by decide +kernel
theorem dX12_lost_71 : decode cX12_lost 71 = .ok (.iconst 1, 1) := by decide +kernel
theorem dX12_lost_72 : decode cX12_lost 72 = .ok (.iaload, 1) := by decide +kernel
theorem dX12_lost_73 : decode cX12_lost 73 = .ok (.if_icmp .ge 143, 3) := by decide +kernel
theorem dX12_lost_76 : decode cX12_lost 76 = .ok (.iconst 0, 1) := by decide +kernel
theorem dX12_lost_77 : decode cX12_lost 77 = .ok (.istore 5, 2) := by decide +kernel
theorem dX12_lost_79 : decode cX12_lost 79 = .ok (.iload 5, 2) := by decide +kernel
theorem dX12_lost_81 : decode cX12_lost 81 = .ok (.bipush 16, 2) := by decide +kernel
theorem dX12_lost_83 : decode cX12_lost 83 = .ok (.if_icmp .gt 19, 3) := by decide +kernel
theorem dX12_lost_86 : decode cX12_lost 86 = .ok (.aload_n 0, 1) := by decide +kernel
theorem dX12_lost_87 : decode cX12_lost 87 = .ok (.getfield 90, 3) := by decide +kernel
theorem dX12_lost_90 : decode cX12_lost 90 = .ok (.iload 5, 2) := by decide +kernel
theorem dX12_lost_92 : decode cX12_lost 92 = .ok (.ldc_w 441, 3) := by decide +kernel
theorem dX12_lost_95 : decode cX12_lost 95 = .ok (.iastore, 1) := by decide +kernel
theorem dX12_lost_96 : decode cX12_lost 96 = .ok (.iinc 5 1, 3) := by decide +kernel
theorem dX12_lost_99 : decode cX12_lost 99 = .ok (.goto (-20), 3) := by decide +kernel
theorem dX12_lost_102 : decode cX12_lost 102 = .ok (.iconst 0, 1) := by decide +kernel
theorem dX12_lost_103 : decode cX12_lost 103 = .ok (.istore 5, 2) := by decide +kernel
theorem dX12_lost_105 : decode cX12_lost 105 = .ok (.iload 5, 2) := by decide +kernel
theorem dX12_lost_107 : decode cX12_lost 107 = .ok (.bipush 54, 2) := by decide +kernel
theorem dX12_lost_109 : decode cX12_lost 109 = .ok (.if_icmp .gt 71, 3) := by decide +kernel
theorem dX12_lost_112 : decode cX12_lost 112 = .ok (.aload_n 0, 1) := by decide +kernel
theorem dX12_lost_113 : decode cX12_lost 113 = .ok (.getfield 84, 3) := by decide +kernel
theorem dX12_lost_116 : decode cX12_lost 116 = .ok (.bipush 55, 2) := by decide +kernel
theorem dX12_lost_118 : decode cX12_lost 118 = .ok (.iload 4, 2) := by decide +kernel
theorem dX12_lost_120 : decode cX12_lost 120 = .ok (.imul, 1) := by decide +kernel
theorem dX12_lost_121 : decode cX12_lost 121 = .ok (.iload 5, 2) := by decide +kernel
theorem dX12_lost_123 : decode cX12_lost 123 = .ok (.iadd, 1) := by decide +kernel
theorem dX12_lost_124 : decode cX12_lost 124 = .ok (.iaload, 1) := by decide +kernel
theorem dX12_lost_125 : decode cX12_lost 125 = .ok (.istore 6, 2) := by decide +kernel
theorem dX12_lost_127 : decode cX12_lost 127 = .ok (.iload 6, 2) := by decide +kernel
theorem dX12_lost_129 : decode cX12_lost 129 = .ok (.istore 7, 2) := by decide +kernel
theorem dX12_lost_131 : decode cX12_lost 131 = .ok (.iload 7, 2) := by decide +kernel
theorem dX12_lost_133 : decode cX12_lost 133 = .ok (.bipush 16, 2) := by decide +kernel
theorem dX12_lost_135 : decode cX12_lost 135 = .ok (.if_icmp .gt 39, 3) := by decide +kernel
theorem dX12_lost_138 : decode cX12_lost 138 = .ok (.aload_n 0, 1) := by decide +kernel
theorem dX12_lost_139 : decode cX12_lost 139 = .ok (.getfield 90, 3) := by decide +kernel
theorem dX12_lost_142 : decode cX12_lost 142 = .ok (.iload 7, 2) := by decide +kernel
theorem dX12_lost_144 : decode cX12_lost 144 = .ok (.aload_n 0, 1) := by decide +kernel
theorem dX12_lost_145 : decode cX12_lost 145 = .ok (.getfield 90, 3) := by decide +kernel
theorem dX12_lost_148 : decode cX12_lost 148 = .ok (.iload 7, 2) := by decide +kernel
theorem dX12_lost_150 : decode cX12_lost 150 = .ok (.iaload, 1) := by decide +kernel
theorem dX12_lost_151 : decode cX12_lost 151 = .ok (.aload_n 0, 1) := by decide +kernel
theorem dX12_lost_152 : decode cX12_lost 152 = .ok (.getfield 87, 3) := by decide +kernel
theorem dX12_lost_155 : decode cX12_lost 155 = .ok (.iload 7, 2) := by decide +kernel
theorem dX12_lost_157 : decode cX12_lost 157 = .ok (.iload 6, 2) := by decide +kernel
theorem dX12_lost_159 : decode cX12_lost 159 = .ok (.isub, 1) := by decide +kernel
theorem dX12_lost_160 : decode cX12_lost 160 = .ok (.iaload, 1) := by decide +kernel
theorem dX12_lost_161 : decode cX12_lost 161 = .ok (.iload 5, 2) := by decide +kernel
theorem dX12_lost_163 : decode cX12_lost 163 = .ok (.iadd, 1) := by decide +kernel
theorem dX12_lost_164 : decode cX12_lost 164 = .ok (.invokestatic 317, 3) := by decide +kernel
theorem dX12_lost_167 : decode cX12_lost 167 = .ok (.iastore, 1) := by decide +kernel
theorem dX12_lost_168 : decode cX12_lost 168 = .ok (.iinc 7 1, 3) := by decide +kernel
theorem dX12_lost_171 : decode cX12_lost 171 = .ok (.goto (-40), 3) := by decide +kernel
theorem dX12_lost_174 : decode cX12_lost 174 = .ok (.iinc 5 1, 3) := by decide +kernel
theorem dX12_lost_177 : decode cX12_lost 177 = .ok (.goto (-72), 3) := by decide +kernel
theorem dX12_lost_180 : decode cX12_lost 180 = .ok (.iconst 0, 1) := by decide +kernel
theorem dX12_lost_181 : decode cX12_lost 181 = .ok (.istore 5, 2) := by decide +kernel
theorem dX12_lost_183 : decode cX12_lost 183 = .ok (.iload 5, 2) := by decide +kernel
theorem dX12_lost_185 : decode cX12_lost 185 = .ok (.bipush 16, 2) := by decide +kernel
theorem dX12_lost_187 : decode cX12_lost 187 = .ok (.if_icmp .gt 23, 3) := by decide +kernel
theorem dX12_lost_190 : decode cX12_lost 190 = .ok (.aload_n 0, 1) := by decide +kernel
theorem dX12_lost_191 : decode cX12_lost 191 = .ok (.getfield 87, 3) := by decide +kernel
theorem dX12_lost_194 : decode cX12_lost 194 = .ok (.iload 5, 2) := by decide +kernel
theorem dX12_lost_196 : decode cX12_lost 196 = .ok (.aload_n 0, 1) := by decide +kernel
theorem dX12_lost_197 : decode cX12_lost 197 = .ok (.getfield 90, 3) := by decide +kernel
theorem dX12_lost_200 : decode cX12_lost 200 = .ok (.iload 5, 2) := by decide +kernel
theorem dX12_lost_202 : decode cX12_lost 202 = .ok (.iaload, 1) := by decide +kernel
theorem dX12_lost_203 : decode cX12_lost 203 = .ok (.iastore, 1) := by decide +kernel
theorem dX12_lost_204 : decode cX12_lost 204 = .ok (.iinc 5 1, 3) := by decide +kernel
theorem dX12_lost_207 : decode cX12_lost 207 = .ok (.goto (-24), 3) := by decide +kernel
theorem dX12_lost_210 : decode cX12_lost 210 = .ok (.iinc 4 1, 3) := by decide +kernel
theorem dX12_lost_213 : decode cX12_lost 213 = .ok (.goto (-148), 3) := by decide +kernel
theorem dX12_lost_216 : decode cX12_lost 216 = .ok (.ldc_w 441, 3) := by decide +kernel
theorem dX12_lost_219 : decode cX12_lost 219 = .ok (.istore 4, 2) := by decide +kernel
theorem dX12_lost_221 : decode cX12_lost 221 = .ok (.iconst 0, 1) := by decide +kernel
theorem dX12_lost_222 : decode cX12_lost 222 = .ok (.istore 5, 2) := by decide +kernel
theorem dX12_lost_224 : decode cX12_lost 224 = .ok (.iload 5, 2) := by decide +kernel
theorem dX12_lost_226 : decode cX12_lost 226 = .ok (.iload_n 3, 1) := by decide +kernel
theorem dX12_lost_227 : decode cX12_lost 227 = .ok (.if_icmp .ge 23, 3) := by decide +kernel
theorem dX12_lost_230 : decode cX12_lost 230 = .ok (.iload 4, 2) := by decide +kernel
theorem dX12_lost_232 : decode cX12_lost 232 = .ok (.aload_n 0, 1) := by decide +kernel
theorem dX12_lost_233 : decode cX12_lost 233 = .ok (.getfield 87, 3) := by decide +kernel
theorem dX12_lost_236 : decode cX12_lost 236 = .ok (.iload 5, 2) := by decide +kernel
theorem dX12_lost_238 : decode cX12_lost 238 = .ok (.iaload, 1) := by decide +kernel
theorem dX12_lost_239 : decode cX12_lost 239 = .ok (.invokestatic 317, 3) := by decide +kernel
theorem dX12_lost_242 : decode cX12_lost 242 = .ok (.istore 4, 2) := by decide +kernel
theorem dX12_lost_244 : decode cX12_lost 244 = .ok (.iinc 5 1, 3) := by decide +kernel
theorem dX12_lost_247 : decode cX12_lost 247 = .ok (.goto (-23), 3) := by decide +kernel
theorem dX12_lost_250 : decode cX12_lost 250 = .ok (.iload 4, 2) := by decide +kernel
theorem dX12_lost_252 : decode cX12_lost 252 = .ok (.ireturn, 1) := by decide +kernel
set_option maxRecDepth 20000 in
def kX12_lost_0 (g : sk_G) (d ck sk : Nat) (Q : sk_P) : sk_K := o_aload 0 (o_iload 1 (o_iload 2 (o_invB (g, d, ck, sk, xX12_lost, Q) xX12_isSpot 2 12 0 0 (o_ifeq (o_i (-1) (o_iret (g, d, ck, sk, xX12_lost, Q))) (o_iload 3 (o_i (1) (o_i (16) (o_stcT (g, d, ck, sk, xX12_lost, Q) 3 3 (fun Q => kX12_in_0 g (d - 1) 0 0 Q) (o_ifne (o_aload 0 (o_iload 1 (o_iload 2 (o_invB (g, d, ck, sk, xX12_lost, Q) xX12_layAgreeing 2 12 0 0 (o_i (0) (o_istore 4 (sk_B (g, d, ck, sk, xX12_lost, Q) 30))))))) (o_i (-1) (o_iret (g, d, ck, sk, xX12_lost, Q))))))))))))
set_option maxRecDepth 20000 in
theorem tX12_lost_0 {g : sk_G} {d ck sk : Nat} {Q : sk_P} : sk_S (g, d, ck, sk, xX12_lost, Q) 0 (kX12_lost_0 g d ck sk Q) := s_aload_n dX12_lost_0 rfl (s_iload_n dX12_lost_1 rfl (s_iload_n dX12_lost_2 rfl (s_invB (w' := (g, d, ck, sk, xX12_lost, Q)) (ci := 12) (ck := 0) (sk := 0) (T := TX12) (N := 49) dX12_lost_3 m_X12_isSpot rfl (by decide) qm_X12_408 qi_X12_isSpot qe_X12_isSpot rfl (s_ifeq (tgt := 19) dX12_lost_6 (by decide) (s_iconst dX12_lost_19 (s_iret dX12_lost_20 rfl)) (s_iload_n dX12_lost_9 rfl (s_iconst dX12_lost_10 (s_bipush dX12_lost_11 rfl (s_stcT (X := xX12_in) (K := (fun Q => kX12_in_0 g (d - 1) 0 0 Q)) (fun _ => tX12_in_0) rfl dX12_lost_13 m_X12_in qm_X12_224 qs_X12_in (s_ifne (tgt := 21) dX12_lost_16 (by decide) (s_aload_n dX12_lost_21 rfl (s_iload_n dX12_lost_22 rfl (s_iload_n dX12_lost_23 rfl (s_invB (w' := (g, d, ck, sk, xX12_lost, Q)) (ci := 12) (ck := 0) (sk := 0) (T := TX12) (N := 49) dX12_lost_24 m_X12_layAgreeing rfl (by decide) qm_X12_438 qi_X12_layAgreeing qe_X12_layAgreeing rfl (s_iconst dX12_lost_27 (s_istore dX12_lost_28 (by decide : 4 < 8) (sk_id))))))) (s_iconst dX12_lost_19 (s_iret dX12_lost_20 rfl)))))))))))
set_option maxRecDepth 20000 in
def kX12_lost_30 (g : sk_G) (d ck sk : Nat) (Q : sk_P) : sk_K := o_iload 4 (o_i (16) (o_icgt (o_i (0) (o_istore 4 (sk_B (g, d, ck, sk, xX12_lost, Q) 65))) (o_aload 0 (o_getf 12 40 (o_iload 4 (o_iload 4 (o_ifne (o_i (1000000) (o_iastore (o_iinc 4 (1) (sk_B (g, d, ck, sk, xX12_lost, Q) 30)))) (o_i (0) (o_iastore (o_iinc 4 (1) (sk_B (g, d, ck, sk, xX12_lost, Q) 30)))))))))))
set_option maxRecDepth 20000 in
theorem tX12_lost_30 {g : sk_G} {d ck sk : Nat} {Q : sk_P} : sk_S (g, d, ck, sk, xX12_lost, Q) 30 (kX12_lost_30 g d ck sk Q) := s_iload dX12_lost_30 (s_bipush dX12_lost_32 rfl (s_icgt (tgt := 62) dX12_lost_34 (by decide) (s_iconst dX12_lost_62 (s_istore dX12_lost_63 (by decide : 4 < 8) (sk_id))) (s_aload_n dX12_lost_37 rfl (s_getf (ci := 12) (j := 40) (C := RX12) (T := TX12) (N := 49) dX12_lost_38 rfl (by decide) (by decide) qf_X12_87 (s_iload dX12_lost_41 (s_iload dX12_lost_43 (s_ifne (tgt := 52) dX12_lost_45 (by decide) (s_ldcw dX12_lost_52 qk_X12_441 rfl (s_iastore dX12_lost_55 (s_iinc dX12_lost_56 (by decide : 4 < 8) (s_goto (tgt := 30) dX12_lost_59 (by decide) (sk_id))))) (s_iconst dX12_lost_48 (s_goto (tgt := 55) dX12_lost_49 (by decide) (s_iastore dX12_lost_55 (s_iinc dX12_lost_56 (by decide : 4 < 8) (s_goto (tgt := 30) dX12_lost_59 (by decide) (sk_id)))))))))))))
def kX12_lost_65 (g : sk_G) (d ck sk : Nat) (Q : sk_P) : sk_K := o_iload 4 (o_aload 0 (o_getf 12 20 (o_i (1) (o_iaload (o_icge (o_i (1000000) (o_istore 4 (o_i (0) (o_istore 5 (sk_B (g, d, ck, sk, xX12_lost, Q) 224))))) (o_i (0) (o_istore 5 (sk_B (g, d, ck, sk, xX12_lost, Q) 79))))))))
theorem tX12_lost_65 {g : sk_G} {d ck sk : Nat} {Q : sk_P} : sk_S (g, d, ck, sk, xX12_lost, Q) 65 (kX12_lost_65 g d ck sk Q) := s_iload dX12_lost_65 (s_aload_n dX12_lost_67 rfl (s_getf (ci := 12) (j := 20) (C := RX12) (T := TX12) (N := 49) dX12_lost_68 rfl (by decide) (by decide) qf_X12_46 (s_iconst dX12_lost_71 (s_iaload dX12_lost_72 (s_icge (tgt := 216) dX12_lost_73 (by decide) (s_ldcw dX12_lost_216 qk_X12_441 rfl (s_istore dX12_lost_219 (by decide : 4 < 8) (s_iconst dX12_lost_221 (s_istore dX12_lost_222 (by decide : 5 < 8) (sk_id))))) (s_iconst dX12_lost_76 (s_istore dX12_lost_77 (by decide : 5 < 8) (sk_id))))))))
def kX12_lost_79 (g : sk_G) (d ck sk : Nat) (Q : sk_P) : sk_K := o_iload 5 (o_i (16) (o_icgt (o_i (0) (o_istore 5 (sk_B (g, d, ck, sk, xX12_lost, Q) 105))) (o_aload 0 (o_getf 12 41 (o_iload 5 (o_i (1000000) (o_iastore (o_iinc 5 (1) (sk_B (g, d, ck, sk, xX12_lost, Q) 79)))))))))
theorem tX12_lost_79 {g : sk_G} {d ck sk : Nat} {Q : sk_P} : sk_S (g, d, ck, sk, xX12_lost, Q) 79 (kX12_lost_79 g d ck sk Q) := s_iload dX12_lost_79 (s_bipush dX12_lost_81 rfl (s_icgt (tgt := 102) dX12_lost_83 (by decide) (s_iconst dX12_lost_102 (s_istore dX12_lost_103 (by decide : 5 < 8) (sk_id))) (s_aload_n dX12_lost_86 rfl (s_getf (ci := 12) (j := 41) (C := RX12) (T := TX12) (N := 49) dX12_lost_87 rfl (by decide) (by decide) qf_X12_90 (s_iload dX12_lost_90 (s_ldcw dX12_lost_92 qk_X12_441 rfl (s_iastore dX12_lost_95 (s_iinc dX12_lost_96 (by decide : 5 < 8) (s_goto (tgt := 79) dX12_lost_99 (by decide) (sk_id))))))))))
def kX12_lost_105 (g : sk_G) (d ck sk : Nat) (Q : sk_P) : sk_K := o_iload 5 (o_i (54) (o_icgt (o_i (0) (o_istore 5 (sk_B (g, d, ck, sk, xX12_lost, Q) 183))) (o_aload 0 (o_getf 12 39 (o_i (55) (o_iload 4 (o_imul (o_iload 5 (o_iadd (o_iaload (o_istore 6 (o_iload 6 (o_istore 7 (sk_B (g, d, ck, sk, xX12_lost, Q) 131))))))))))))))
theorem tX12_lost_105 {g : sk_G} {d ck sk : Nat} {Q : sk_P} : sk_S (g, d, ck, sk, xX12_lost, Q) 105 (kX12_lost_105 g d ck sk Q) := s_iload dX12_lost_105 (s_bipush dX12_lost_107 rfl (s_icgt (tgt := 180) dX12_lost_109 (by decide) (s_iconst dX12_lost_180 (s_istore dX12_lost_181 (by decide : 5 < 8) (sk_id))) (s_aload_n dX12_lost_112 rfl (s_getf (ci := 12) (j := 39) (C := RX12) (T := TX12) (N := 49) dX12_lost_113 rfl (by decide) (by decide) qf_X12_84 (s_bipush dX12_lost_116 rfl (s_iload dX12_lost_118 (s_imul dX12_lost_120 (s_iload dX12_lost_121 (s_iadd dX12_lost_123 (s_iaload dX12_lost_124 (s_istore dX12_lost_125 (by decide : 6 < 8) (s_iload dX12_lost_127 (s_istore dX12_lost_129 (by decide : 7 < 8) (sk_id))))))))))))))
set_option maxRecDepth 20000 in
def kX12_lost_131 (g : sk_G) (d ck sk : Nat) (Q : sk_P) : sk_K := o_iload 7 (o_i (16) (o_icgt (o_iinc 5 (1) (sk_B (g, d, ck, sk, xX12_lost, Q) 105)) (o_aload 0 (o_getf 12 41 (o_iload 7 (o_aload 0 (o_getf 12 41 (o_iload 7 (o_iaload (o_aload 0 (o_getf 12 40 (o_iload 7 (o_iload 6 (o_isub (o_iaload (o_iload 5 (o_iadd (o_min (g, d, ck, sk, xX12_lost, Q) (o_iastore (o_iinc 7 (1) (sk_B (g, d, ck, sk, xX12_lost, Q) 131)))))))))))))))))))))
set_option maxRecDepth 20000 in
theorem tX12_lost_131 {g : sk_G} {d ck sk : Nat} {Q : sk_P} : sk_S (g, d, ck, sk, xX12_lost, Q) 131 (kX12_lost_131 g d ck sk Q) := s_iload dX12_lost_131 (s_bipush dX12_lost_133 rfl (s_icgt (tgt := 174) dX12_lost_135 (by decide) (s_iinc dX12_lost_174 (by decide : 5 < 8) (s_goto (tgt := 105) dX12_lost_177 (by decide) (sk_id))) (s_aload_n dX12_lost_138 rfl (s_getf (ci := 12) (j := 41) (C := RX12) (T := TX12) (N := 49) dX12_lost_139 rfl (by decide) (by decide) qf_X12_90 (s_iload dX12_lost_142 (s_aload_n dX12_lost_144 rfl (s_getf (ci := 12) (j := 41) (C := RX12) (T := TX12) (N := 49) dX12_lost_145 rfl (by decide) (by decide) qf_X12_90 (s_iload dX12_lost_148 (s_iaload dX12_lost_150 (s_aload_n dX12_lost_151 rfl (s_getf (ci := 12) (j := 40) (C := RX12) (T := TX12) (N := 49) dX12_lost_152 rfl (by decide) (by decide) qf_X12_87 (s_iload dX12_lost_155 (s_iload dX12_lost_157 (s_isub dX12_lost_159 (s_iaload dX12_lost_160 (s_iload dX12_lost_161 (s_iadd dX12_lost_163 (s_min dX12_lost_164 qm_X12_317 qs_Mmin qz_J9 qc_Mmin (s_iastore dX12_lost_167 (s_iinc dX12_lost_168 (by decide : 7 < 8) (s_goto (tgt := 131) dX12_lost_171 (by decide) (sk_id))))))))))))))))))))))
set_option maxRecDepth 20000 in
def kX12_lost_183 (g : sk_G) (d ck sk : Nat) (Q : sk_P) : sk_K := o_iload 5 (o_i (16) (o_icgt (o_iinc 4 (1) (sk_B (g, d, ck, sk, xX12_lost, Q) 65)) (o_aload 0 (o_getf 12 40 (o_iload 5 (o_aload 0 (o_getf 12 41 (o_iload 5 (o_iaload (o_iastore (o_iinc 5 (1) (sk_B (g, d, ck, sk, xX12_lost, Q) 183))))))))))))
set_option maxRecDepth 20000 in
theorem tX12_lost_183 {g : sk_G} {d ck sk : Nat} {Q : sk_P} : sk_S (g, d, ck, sk, xX12_lost, Q) 183 (kX12_lost_183 g d ck sk Q) := s_iload dX12_lost_183 (s_bipush dX12_lost_185 rfl (s_icgt (tgt := 210) dX12_lost_187 (by decide) (s_iinc dX12_lost_210 (by decide : 4 < 8) (s_goto (tgt := 65) dX12_lost_213 (by decide) (sk_id))) (s_aload_n dX12_lost_190 rfl (s_getf (ci := 12) (j := 40) (C := RX12) (T := TX12) (N := 49) dX12_lost_191 rfl (by decide) (by decide) qf_X12_87 (s_iload dX12_lost_194 (s_aload_n dX12_lost_196 rfl (s_getf (ci := 12) (j := 41) (C := RX12) (T := TX12) (N := 49) dX12_lost_197 rfl (by decide) (by decide) qf_X12_90 (s_iload dX12_lost_200 (s_iaload dX12_lost_202 (s_iastore dX12_lost_203 (s_iinc dX12_lost_204 (by decide : 5 < 8) (s_goto (tgt := 183) dX12_lost_207 (by decide) (sk_id)))))))))))))
def kX12_lost_224 (g : sk_G) (d ck sk : Nat) (Q : sk_P) : sk_K := o_iload 5 (o_iload 3 (o_icge (o_iload 4 (o_iret (g, d, ck, sk, xX12_lost, Q))) (o_iload 4 (o_aload 0 (o_getf 12 40 (o_iload 5 (o_iaload (o_min (g, d, ck, sk, xX12_lost, Q) (o_istore 4 (o_iinc 5 (1) (sk_B (g, d, ck, sk, xX12_lost, Q) 224)))))))))))
theorem tX12_lost_224 {g : sk_G} {d ck sk : Nat} {Q : sk_P} : sk_S (g, d, ck, sk, xX12_lost, Q) 224 (kX12_lost_224 g d ck sk Q) := s_iload dX12_lost_224 (s_iload_n dX12_lost_226 rfl (s_icge (tgt := 250) dX12_lost_227 (by decide) (s_iload dX12_lost_250 (s_iret dX12_lost_252 rfl)) (s_iload dX12_lost_230 (s_aload_n dX12_lost_232 rfl (s_getf (ci := 12) (j := 40) (C := RX12) (T := TX12) (N := 49) dX12_lost_233 rfl (by decide) (by decide) qf_X12_87 (s_iload dX12_lost_236 (s_iaload dX12_lost_238 (s_min dX12_lost_239 qm_X12_317 qs_Mmin qz_J9 qc_Mmin (s_istore dX12_lost_242 (by decide : 4 < 8) (s_iinc dX12_lost_244 (by decide : 5 < 8) (s_goto (tgt := 224) dX12_lost_247 (by decide) (sk_id))))))))))))
theorem dX12_layAgreeing_0 : decode cX12_layAgreeing 0 = .ok (.iconst 0, 1) := by decide +kernel
theorem dX12_layAgreeing_1 : decode cX12_layAgreeing 1 = .ok (.istore_n 3, 1) := by decide +kernel
theorem dX12_layAgreeing_2 : decode cX12_layAgreeing 2 = .ok (.iload_n 3, 1) := by decide +kernel
theorem dX12_layAgreeing_3 : decode cX12_layAgreeing 3 = .ok (.aload_n 0, 1) := by decide +kernel
theorem dX12_layAgreeing_4 : decode cX12_layAgreeing 4 = .ok (.getfield 46, 3) := by decide +kernel
theorem dX12_layAgreeing_7 : decode cX12_layAgreeing 7 = .ok (.iconst 1, 1) := by decide +kernel
theorem dX12_layAgreeing_8 : decode cX12_layAgreeing 8 = .ok (.iaload, 1) := by decide +kernel
theorem dX12_layAgreeing_9 : decode cX12_layAgreeing 9 = .ok (.if_icmp .ge 59, 3) := by decide +kernel
theorem dX12_layAgreeing_12 : decode cX12_layAgreeing 12 = .ok (.aload_n 0, 1) := by decide +kernel
theorem dX12_layAgreeing_13 : decode cX12_layAgreeing 13 = .ok (.invokevirtual 429, 3) := by decide +kernel
theorem dX12_layAgreeing_16 : decode cX12_layAgreeing 16 = .ok (.iconst 0, 1) := by decide +kernel
theorem dX12_layAgreeing_17 : decode cX12_layAgreeing 17 = .ok (.istore 4, 2) := by decide +kernel
theorem dX12_layAgreeing_19 : decode cX12_layAgreeing 19 = .ok (.iload 4, 2) := by decide +kernel
theorem dX12_layAgreeing_21 : decode cX12_layAgreeing 21 = .ok (.bipush 54, 2) := by decide +kernel
theorem dX12_layAgreeing_23 : decode cX12_layAgreeing 23 = .ok (.if_icmp .gt 35, 3) := by decide +kernel
theorem dX12_layAgreeing_26 : decode cX12_layAgreeing 26 = .ok (.aload_n 0, 1) := by decide +kernel
theorem dX12_layAgreeing_27 : decode cX12_layAgreeing 27 = .ok (.getfield 84, 3) := by decide +kernel
theorem dX12_layAgreeing_30 : decode cX12_layAgreeing 30 = .ok (.bipush 55, 2) := by decide +kernel
theorem dX12_layAgreeing_32 : decode cX12_layAgreeing 32 = .ok (.iload_n 3, 1) := by decide +kernel
theorem dX12_layAgreeing_33 : decode cX12_layAgreeing 33 = .ok (.imul, 1) := by decide +kernel
theorem dX12_layAgreeing_34 : decode cX12_layAgreeing 34 = .ok (.iload 4, 2) := by decide +kernel
theorem dX12_layAgreeing_36 : decode cX12_layAgreeing 36 = .ok (.iadd, 1) := by decide +kernel
theorem dX12_layAgreeing_37 : decode cX12_layAgreeing 37 = .ok (.aload_n 0, 1) := by decide +kernel
theorem dX12_layAgreeing_38 : decode cX12_layAgreeing 38 = .ok (.iload_n 1, 1) := by decide +kernel
theorem dX12_layAgreeing_39 : decode cX12_layAgreeing 39 = .ok (.iload_n 2, 1) := by decide +kernel
theorem dX12_layAgreeing_40 : decode cX12_layAgreeing 40 = .ok (.iload_n 3, 1) := by decide +kernel
theorem dX12_layAgreeing_41 : decode cX12_layAgreeing 41 = .ok (.invokevirtual 432, 3) := by decide +kernel
theorem dX12_layAgreeing_44 : decode cX12_layAgreeing 44 = .ok (.iastore, 1) := by decide +kernel
theorem dX12_layAgreeing_45 : decode cX12_layAgreeing 45 = .ok (.aload_n 0, 1) := by decide +kernel
theorem dX12_layAgreeing_46 : decode cX12_layAgreeing 46 = .ok (.iload_n 3, 1) := by decide +kernel
theorem dX12_layAgreeing_47 : decode cX12_layAgreeing 47 = .ok (.iconst 1, 1) := by decide +kernel
theorem dX12_layAgreeing_48 : decode cX12_layAgreeing 48 = .ok (.invokevirtual 382, 3) := by decide +kernel
theorem dX12_layAgreeing_51 : decode cX12_layAgreeing 51 = .ok (.pop, 1) := by decide +kernel
theorem dX12_layAgreeing_52 : decode cX12_layAgreeing 52 = .ok (.iinc 4 1, 3) := by decide +kernel
theorem dX12_layAgreeing_55 : decode cX12_layAgreeing 55 = .ok (.goto (-36), 3) := by decide +kernel
theorem dX12_layAgreeing_58 : decode cX12_layAgreeing 58 = .ok (.aload_n 0, 1) := by decide +kernel
theorem dX12_layAgreeing_59 : decode cX12_layAgreeing 59 = .ok (.invokevirtual 435, 3) := by decide +kernel
theorem dX12_layAgreeing_62 : decode cX12_layAgreeing 62 = .ok (.iinc 3 1, 3) := by decide +kernel
theorem dX12_layAgreeing_65 : decode cX12_layAgreeing 65 = .ok (.goto (-63), 3) := by decide +kernel
theorem dX12_layAgreeing_68 : decode cX12_layAgreeing 68 = .ok (.return_, 1) := by decide +kernel
def kX12_layAgreeing_0 (g : sk_G) (d ck sk : Nat) (Q : sk_P) : sk_K := o_i (0) (o_istore 3 (sk_B (g, d, ck, sk, xX12_layAgreeing, Q) 2))
theorem tX12_layAgreeing_0 {g : sk_G} {d ck sk : Nat} {Q : sk_P} : sk_S (g, d, ck, sk, xX12_layAgreeing, Q) 0 (kX12_layAgreeing_0 g d ck sk Q) := s_iconst dX12_layAgreeing_0 (s_istore_n dX12_layAgreeing_1 rfl (by decide : 3 < 5) (sk_id))
set_option maxRecDepth 20000 in
def kX12_layAgreeing_2 (g : sk_G) (d ck sk : Nat) (Q : sk_P) : sk_K := o_iload 3 (o_aload 0 (o_getf 12 20 (o_i (1) (o_iaload (o_icge (o_ret (g, d, ck, sk, xX12_layAgreeing, Q)) (o_aload 0 (o_invB (g, d, ck, sk, xX12_layAgreeing, Q) xX12_putAside 0 12 0 0 (o_i (0) (o_istore 4 (sk_B (g, d, ck, sk, xX12_layAgreeing, Q) 19))))))))))
set_option maxRecDepth 20000 in
theorem tX12_layAgreeing_2 {g : sk_G} {d ck sk : Nat} {Q : sk_P} : sk_S (g, d, ck, sk, xX12_layAgreeing, Q) 2 (kX12_layAgreeing_2 g d ck sk Q) := s_iload_n dX12_layAgreeing_2 rfl (s_aload_n dX12_layAgreeing_3 rfl (s_getf (ci := 12) (j := 20) (C := RX12) (T := TX12) (N := 49) dX12_layAgreeing_4 rfl (by decide) (by decide) qf_X12_46 (s_iconst dX12_layAgreeing_7 (s_iaload dX12_layAgreeing_8 (s_icge (tgt := 68) dX12_layAgreeing_9 (by decide) (s_ret dX12_layAgreeing_68 rfl) (s_aload_n dX12_layAgreeing_12 rfl (s_invB (w' := (g, d, ck, sk, xX12_layAgreeing, Q)) (ci := 12) (ck := 0) (sk := 0) (T := TX12) (N := 49) dX12_layAgreeing_13 m_X12_putAside rfl (by decide) qm_X12_429 qi_X12_putAside qe_X12_putAside rfl (s_iconst dX12_layAgreeing_16 (s_istore dX12_layAgreeing_17 (by decide : 4 < 5) (sk_id))))))))))
set_option maxRecDepth 20000 in
def kX12_layAgreeing_19 (g : sk_G) (d ck sk : Nat) (Q : sk_P) : sk_K := o_iload 4 (o_i (54) (o_icgt (o_aload 0 (o_invB (g, d, ck, sk, xX12_layAgreeing, Q) xX12_takeBack 0 12 0 0 (o_iinc 3 (1) (sk_B (g, d, ck, sk, xX12_layAgreeing, Q) 2)))) (o_aload 0 (o_getf 12 39 (o_i (55) (o_iload 3 (o_imul (o_iload 4 (o_iadd (o_aload 0 (o_iload 1 (o_iload 2 (o_iload 3 (o_invB (g, d, ck, sk, xX12_layAgreeing, Q) xX12_agreeIn 3 12 0 0 (o_iastore (o_aload 0 (o_iload 3 (o_i (1) (o_invB (g, d, ck, sk, xX12_layAgreeing, Q) xX12_scrapeNow 2 12 0 0 (o_pop (o_iinc 4 (1) (sk_B (g, d, ck, sk, xX12_layAgreeing, Q) 19))))))))))))))))))))))
set_option maxRecDepth 20000 in
theorem tX12_layAgreeing_19 {g : sk_G} {d ck sk : Nat} {Q : sk_P} : sk_S (g, d, ck, sk, xX12_layAgreeing, Q) 19 (kX12_layAgreeing_19 g d ck sk Q) := s_iload dX12_layAgreeing_19 (s_bipush dX12_layAgreeing_21 rfl (s_icgt (tgt := 58) dX12_layAgreeing_23 (by decide) (s_aload_n dX12_layAgreeing_58 rfl (s_invB (w' := (g, d, ck, sk, xX12_layAgreeing, Q)) (ci := 12) (ck := 0) (sk := 0) (T := TX12) (N := 49) dX12_layAgreeing_59 m_X12_takeBack rfl (by decide) qm_X12_435 qi_X12_takeBack qe_X12_takeBack rfl (s_iinc dX12_layAgreeing_62 (by decide : 3 < 5) (s_goto (tgt := 2) dX12_layAgreeing_65 (by decide) (sk_id))))) (s_aload_n dX12_layAgreeing_26 rfl (s_getf (ci := 12) (j := 39) (C := RX12) (T := TX12) (N := 49) dX12_layAgreeing_27 rfl (by decide) (by decide) qf_X12_84 (s_bipush dX12_layAgreeing_30 rfl (s_iload_n dX12_layAgreeing_32 rfl (s_imul dX12_layAgreeing_33 (s_iload dX12_layAgreeing_34 (s_iadd dX12_layAgreeing_36 (s_aload_n dX12_layAgreeing_37 rfl (s_iload_n dX12_layAgreeing_38 rfl (s_iload_n dX12_layAgreeing_39 rfl (s_iload_n dX12_layAgreeing_40 rfl (s_invB (w' := (g, d, ck, sk, xX12_layAgreeing, Q)) (ci := 12) (ck := 0) (sk := 0) (T := TX12) (N := 49) dX12_layAgreeing_41 m_X12_agreeIn rfl (by decide) qm_X12_432 qi_X12_agreeIn qe_X12_agreeIn rfl (s_iastore dX12_layAgreeing_44 (s_aload_n dX12_layAgreeing_45 rfl (s_iload_n dX12_layAgreeing_46 rfl (s_iconst dX12_layAgreeing_47 (s_invB (w' := (g, d, ck, sk, xX12_layAgreeing, Q)) (ci := 12) (ck := 0) (sk := 0) (T := TX12) (N := 49) dX12_layAgreeing_48 m_X12_scrapeNow rfl (by decide) qm_X12_382 qi_X12_scrapeNow qe_X12_scrapeNow rfl (s_pop dX12_layAgreeing_51 (s_iinc dX12_layAgreeing_52 (by decide : 4 < 5) (s_goto (tgt := 19) dX12_layAgreeing_55 (by decide) (sk_id)))))))))))))))))))))))
theorem dX12_putAside_0 : decode cX12_putAside 0 = .ok (.iconst 0, 1) := by decide +kernel
theorem dX12_putAside_1 : decode cX12_putAside 1 = .ok (.istore_n 1, 1) := by decide +kernel
theorem dX12_putAside_2 : decode cX12_putAside 2 = .ok (.iload_n 1, 1) := by decide +kernel
theorem dX12_putAside_3 : decode cX12_putAside 3 = .ok (.sipush 762, 3) := by decide +kernel
theorem dX12_putAside_6 : decode cX12_putAside 6 = .ok (.if_icmp .ge 21, 3) := by decide +kernel
theorem dX12_putAside_9 : decode cX12_putAside 9 = .ok (.aload_n 0, 1) := by decide +kernel
theorem dX12_putAside_10 : decode cX12_putAside 10 = .ok (.getfield 81, 3) := by decide +kernel
theorem dX12_putAside_13 : decode cX12_putAside 13 = .ok (.iload_n 1, 1) := by decide +kernel
theorem dX12_putAside_14 : decode cX12_putAside 14 = .ok (.aload_n 0, 1) := by decide +kernel
theorem dX12_putAside_15 : decode cX12_putAside 15 = .ok (.getfield 61, 3) := by decide +kernel
theorem dX12_putAside_18 : decode cX12_putAside 18 = .ok (.iload_n 1, 1) := by decide +kernel
theorem dX12_putAside_19 : decode cX12_putAside 19 = .ok (.iaload, 1) := by decide +kernel
theorem dX12_putAside_20 : decode cX12_putAside 20 = .ok (.iastore, 1) := by decide +kernel
theorem dX12_putAside_21 : decode cX12_putAside 21 = .ok (.iinc 1 1, 3) := by decide +kernel
theorem dX12_putAside_24 : decode cX12_putAside 24 = .ok (.goto (-22), 3) := by decide +kernel
theorem dX12_putAside_27 : decode cX12_putAside 27 = .ok (.return_, 1) := by decide +kernel
def kX12_putAside_0 (g : sk_G) (d ck sk : Nat) (Q : sk_P) : sk_K := o_i (0) (o_istore 1 (sk_B (g, d, ck, sk, xX12_putAside, Q) 2))
theorem tX12_putAside_0 {g : sk_G} {d ck sk : Nat} {Q : sk_P} : sk_S (g, d, ck, sk, xX12_putAside, Q) 0 (kX12_putAside_0 g d ck sk Q) := s_iconst dX12_putAside_0 (s_istore_n dX12_putAside_1 rfl (by decide : 1 < 2) (sk_id))
set_option maxRecDepth 20000 in
def kX12_putAside_2 (g : sk_G) (d ck sk : Nat) (Q : sk_P) : sk_K := o_iload 1 (o_i (762) (o_icge (o_ret (g, d, ck, sk, xX12_putAside, Q)) (o_aload 0 (o_getf 12 38 (o_iload 1 (o_aload 0 (o_getf 12 28 (o_iload 1 (o_iaload (o_iastore (o_iinc 1 (1) (sk_B (g, d, ck, sk, xX12_putAside, Q) 2))))))))))))
set_option maxRecDepth 20000 in
theorem tX12_putAside_2 {g : sk_G} {d ck sk : Nat} {Q : sk_P} : sk_S (g, d, ck, sk, xX12_putAside, Q) 2 (kX12_putAside_2 g d ck sk Q) := s_iload_n dX12_putAside_2 rfl (s_sipush dX12_putAside_3 rfl (s_icge (tgt := 27) dX12_putAside_6 (by decide) (s_ret dX12_putAside_27 rfl) (s_aload_n dX12_putAside_9 rfl (s_getf (ci := 12) (j := 38) (C := RX12) (T := TX12) (N := 49) dX12_putAside_10 rfl (by decide) (by decide) qf_X12_81 (s_iload_n dX12_putAside_13 rfl (s_aload_n dX12_putAside_14 rfl (s_getf (ci := 12) (j := 28) (C := RX12) (T := TX12) (N := 49) dX12_putAside_15 rfl (by decide) (by decide) qf_X12_61 (s_iload_n dX12_putAside_18 rfl (s_iaload dX12_putAside_19 (s_iastore dX12_putAside_20 (s_iinc dX12_putAside_21 (by decide : 1 < 2) (s_goto (tgt := 2) dX12_putAside_24 (by decide) (sk_id)))))))))))))
theorem dX12_agreeIn_0 : decode cX12_agreeIn 0 = .ok (.iconst 0, 1) := by decide +kernel
theorem dX12_agreeIn_1 : decode cX12_agreeIn 1 = .ok (.istore 4, 2) := by decide +kernel
theorem dX12_agreeIn_3 : decode cX12_agreeIn 3 = .ok (.iconst 0, 1) := by decide +kernel
theorem dX12_agreeIn_4 : decode cX12_agreeIn 4 = .ok (.istore 5, 2) := by decide +kernel
theorem dX12_agreeIn_6 : decode cX12_agreeIn 6 = .ok (.iload 5, 2) := by decide +kernel
theorem dX12_agreeIn_8 : decode cX12_agreeIn 8 = .ok (.aload_n 0, 1) := by decide +kernel
theorem dX12_agreeIn_9 : decode cX12_agreeIn 9 = .ok (.getfield 55, 3) := by decide +kernel
theorem dX12_agreeIn_12 : decode cX12_agreeIn 12 = .ok (.iload_n 1, 1) := by decide +kernel
theorem dX12_agreeIn_13 : decode cX12_agreeIn 13 = .ok (.iaload, 1) := by decide +kernel
theorem dX12_agreeIn_14 : decode cX12_agreeIn 14 = .ok (.if_icmp .ge 75, 3) := by decide +kernel
theorem dX12_agreeIn_17 : decode cX12_agreeIn 17 = .ok (.aload_n 0, 1) := by decide +kernel
theorem dX12_agreeIn_18 : decode cX12_agreeIn 18 = .ok (.iload_n 1, 1) := by decide +kernel
theorem dX12_agreeIn_19 : decode cX12_agreeIn 19 = .ok (.iload 5, 2) := by decide +kernel
theorem dX12_agreeIn_21 : decode cX12_agreeIn 21 = .ok (.iload_n 2, 1) := by decide +kernel
theorem dX12_agreeIn_22 : decode cX12_agreeIn 22 = .ok (.iconst 4, 1) := by decide +kernel
theorem dX12_agreeIn_23 : decode cX12_agreeIn 23 = .ok (.idiv, 1) := by decide +kernel
theorem dX12_agreeIn_24 : decode cX12_agreeIn 24 = .ok (.iload_n 2, 1) := by decide +kernel
theorem dX12_agreeIn_25 : decode cX12_agreeIn 25 = .ok (.iconst 4, 1) := by decide +kernel
theorem dX12_agreeIn_26 : decode cX12_agreeIn 26 = .ok (.irem, 1) := by decide +kernel
theorem dX12_agreeIn_27 : decode cX12_agreeIn 27 = .ok (.invokevirtual 339, 3) := by decide +kernel
theorem dX12_agreeIn_30 : decode cX12_agreeIn 30 = .ok (.istore 6, 2) := by decide +kernel
theorem dX12_agreeIn_32 : decode cX12_agreeIn 32 = .ok (.iload 4, 2) := by decide +kernel
theorem dX12_agreeIn_34 : decode cX12_agreeIn 34 = .ok (.aload_n 0, 1) := by decide +kernel
theorem dX12_agreeIn_35 : decode cX12_agreeIn 35 = .ok (.iload_n 1, 1) := by decide +kernel
theorem dX12_agreeIn_36 : decode cX12_agreeIn 36 = .ok (.iload 5, 2) := by decide +kernel
theorem dX12_agreeIn_38 : decode cX12_agreeIn 38 = .ok (.invokevirtual 349, 3) := by decide +kernel
theorem dX12_agreeIn_41 : decode cX12_agreeIn 41 = .ok (.bipush 26, 2) := by decide +kernel
theorem dX12_agreeIn_43 : decode cX12_agreeIn 43 = .ok (.if_icmp .eq 36, 3) := by decide +kernel
theorem dX12_agreeIn_46 : decode cX12_agreeIn 46 = .ok (.iload 6, 2) := by decide +kernel
theorem dX12_agreeIn_48 : decode cX12_agreeIn 48 = .ok (.aload_n 0, 1) := by decide +kernel
theorem dX12_agreeIn_49 : decode cX12_agreeIn 49 = .ok (.getfield 46, 3) := by decide +kernel
theorem dX12_agreeIn_52 : decode cX12_agreeIn 52 = .ok (.iconst 0, 1) := by decide +kernel
theorem dX12_agreeIn_53 : decode cX12_agreeIn 53 = .ok (.iaload, 1) := by decide +kernel
theorem dX12_agreeIn_54 : decode cX12_agreeIn 54 = .ok (.idiv, 1) := by decide +kernel
theorem dX12_agreeIn_55 : decode cX12_agreeIn 55 = .ok (.iload_n 3, 1) := by decide +kernel
theorem dX12_agreeIn_56 : decode cX12_agreeIn 56 = .ok (.if_icmp .ne 23, 3) := by decide +kernel
theorem dX12_agreeIn_59 : decode cX12_agreeIn 59 = .ok (.aload_n 0, 1) := by decide +kernel
theorem dX12_agreeIn_60 : decode cX12_agreeIn 60 = .ok (.aload_n 0, 1) := by decide +kernel
theorem dX12_agreeIn_61 : decode cX12_agreeIn 61 = .ok (.iload_n 1, 1) := by decide +kernel
theorem dX12_agreeIn_62 : decode cX12_agreeIn 62 = .ok (.iload 5, 2) := by decide +kernel
theorem dX12_agreeIn_64 : decode cX12_agreeIn 64 = .ok (.invokevirtual 349, 3) := by decide +kernel
theorem dX12_agreeIn_67 : decode cX12_agreeIn 67 = .ok (.iload 6, 2) := by decide +kernel
theorem dX12_agreeIn_69 : decode cX12_agreeIn 69 = .ok (.invokevirtual 405, 3) := by decide +kernel
theorem dX12_agreeIn_72 : decode cX12_agreeIn 72 = .ok (.ifCond .ne 7, 3) := by decide +kernel
theorem dX12_agreeIn_75 : decode cX12_agreeIn 75 = .ok (.iconst 1, 1) := by decide +kernel
theorem dX12_agreeIn_76 : decode cX12_agreeIn 76 = .ok (.goto 4, 3) := by decide +kernel
theorem dX12_agreeIn_79 : decode cX12_agreeIn 79 = .ok (.iconst 0, 1) := by decide +kernel
theorem dX12_agreeIn_80 : decode cX12_agreeIn 80 = .ok (.iadd, 1) := by decide +kernel
theorem dX12_agreeIn_81 : decode cX12_agreeIn 81 = .ok (.istore 4, 2) := by decide +kernel
theorem dX12_agreeIn_83 : decode cX12_agreeIn 83 = .ok (.iinc 5 1, 3) := by decide +kernel
theorem dX12_agreeIn_86 : decode cX12_agreeIn 86 = .ok (.goto (-80), 3) := by decide +kernel
theorem dX12_agreeIn_89 : decode cX12_agreeIn 89 = .ok (.iload 4, 2) := by decide +kernel
theorem dX12_agreeIn_91 : decode cX12_agreeIn 91 = .ok (.ireturn, 1) := by decide +kernel
def kX12_agreeIn_0 (g : sk_G) (d ck sk : Nat) (Q : sk_P) : sk_K := o_i (0) (o_istore 4 (o_i (0) (o_istore 5 (sk_B (g, d, ck, sk, xX12_agreeIn, Q) 6))))
theorem tX12_agreeIn_0 {g : sk_G} {d ck sk : Nat} {Q : sk_P} : sk_S (g, d, ck, sk, xX12_agreeIn, Q) 0 (kX12_agreeIn_0 g d ck sk Q) := s_iconst dX12_agreeIn_0 (s_istore dX12_agreeIn_1 (by decide : 4 < 7) (s_iconst dX12_agreeIn_3 (s_istore dX12_agreeIn_4 (by decide : 5 < 7) (sk_id))))
set_option maxRecDepth 20000 in
def kX12_agreeIn_6 (g : sk_G) (d ck sk : Nat) (Q : sk_P) : sk_K := o_iload 5 (o_aload 0 (o_getf 12 25 (o_iload 1 (o_iaload (o_icge (o_iload 4 (o_iret (g, d, ck, sk, xX12_agreeIn, Q))) (o_aload 0 (o_iload 1 (o_iload 5 (o_iload 2 (o_i (4) (o_idiv (o_iload 2 (o_i (4) (o_irem (o_invB (g, d, ck, sk, xX12_agreeIn, Q) xX12_cellOf 4 12 0 0 (o_istore 6 (o_iload 4 (o_aload 0 (o_iload 1 (o_iload 5 (o_invT (g, d, ck, sk, xX12_agreeIn, Q) 3 2 12 (fun Q => kX12_signOf_0 g (d - 1) 0 0 Q) (o_i (26) (o_iceq (o_i (0) (o_iadd (o_istore 4 (o_iinc 5 (1) (sk_B (g, d, ck, sk, xX12_agreeIn, Q) 6))))) (o_iload 6 (o_aload 0 (o_getf 12 20 (o_i (0) (o_iaload (o_idiv (o_iload 3 (o_icne (o_i (0) (o_iadd (o_istore 4 (o_iinc 5 (1) (sk_B (g, d, ck, sk, xX12_agreeIn, Q) 6))))) (o_aload 0 (o_aload 0 (o_iload 1 (o_iload 5 (o_invT (g, d, ck, sk, xX12_agreeIn, Q) 3 2 12 (fun Q => kX12_signOf_0 g (d - 1) 0 0 Q) (o_iload 6 (o_invB (g, d, ck, sk, xX12_agreeIn, Q) xX12_howAt 2 12 0 0 (o_ifne (o_i (0) (o_iadd (o_istore 4 (o_iinc 5 (1) (sk_B (g, d, ck, sk, xX12_agreeIn, Q) 6))))) (o_i (1) (o_iadd (o_istore 4 (o_iinc 5 (1) (sk_B (g, d, ck, sk, xX12_agreeIn, Q) 6))))))))))))))))))))))))))))))))))))))))))))
set_option maxRecDepth 20000 in
theorem tX12_agreeIn_6 {g : sk_G} {d ck sk : Nat} {Q : sk_P} : sk_S (g, d, ck, sk, xX12_agreeIn, Q) 6 (kX12_agreeIn_6 g d ck sk Q) := s_iload dX12_agreeIn_6 (s_aload_n dX12_agreeIn_8 rfl (s_getf (ci := 12) (j := 25) (C := RX12) (T := TX12) (N := 49) dX12_agreeIn_9 rfl (by decide) (by decide) qf_X12_55 (s_iload_n dX12_agreeIn_12 rfl (s_iaload dX12_agreeIn_13 (s_icge (tgt := 89) dX12_agreeIn_14 (by decide) (s_iload dX12_agreeIn_89 (s_iret dX12_agreeIn_91 rfl)) (s_aload_n dX12_agreeIn_17 rfl (s_iload_n dX12_agreeIn_18 rfl (s_iload dX12_agreeIn_19 (s_iload_n dX12_agreeIn_21 rfl (s_iconst dX12_agreeIn_22 (s_idiv dX12_agreeIn_23 (s_iload_n dX12_agreeIn_24 rfl (s_iconst dX12_agreeIn_25 (s_irem dX12_agreeIn_26 (s_invB (w' := (g, d, ck, sk, xX12_agreeIn, Q)) (ci := 12) (ck := 0) (sk := 0) (T := TX12) (N := 49) dX12_agreeIn_27 m_X12_cellOf rfl (by decide) qm_X12_339 qi_X12_cellOf qe_X12_cellOf rfl (s_istore dX12_agreeIn_30 (by decide : 6 < 7) (s_iload dX12_agreeIn_32 (s_aload_n dX12_agreeIn_34 rfl (s_iload_n dX12_agreeIn_35 rfl (s_iload dX12_agreeIn_36 (s_invT (X := xX12_signOf) (ci := 12) (T := TX12) (N := 49) (K := (fun Q => kX12_signOf_0 g (d - 1) 0 0 Q)) (fun _ => tX12_signOf_0) rfl dX12_agreeIn_38 m_X12_signOf rfl (by decide) qm_X12_349 qi_X12_signOf qe_X12_signOf (s_bipush dX12_agreeIn_41 rfl (s_iceq (tgt := 79) dX12_agreeIn_43 (by decide) (s_iconst dX12_agreeIn_79 (s_iadd dX12_agreeIn_80 (s_istore dX12_agreeIn_81 (by decide : 4 < 7) (s_iinc dX12_agreeIn_83 (by decide : 5 < 7) (s_goto (tgt := 6) dX12_agreeIn_86 (by decide) (sk_id)))))) (s_iload dX12_agreeIn_46 (s_aload_n dX12_agreeIn_48 rfl (s_getf (ci := 12) (j := 20) (C := RX12) (T := TX12) (N := 49) dX12_agreeIn_49 rfl (by decide) (by decide) qf_X12_46 (s_iconst dX12_agreeIn_52 (s_iaload dX12_agreeIn_53 (s_idiv dX12_agreeIn_54 (s_iload_n dX12_agreeIn_55 rfl (s_icne (tgt := 79) dX12_agreeIn_56 (by decide) (s_iconst dX12_agreeIn_79 (s_iadd dX12_agreeIn_80 (s_istore dX12_agreeIn_81 (by decide : 4 < 7) (s_iinc dX12_agreeIn_83 (by decide : 5 < 7) (s_goto (tgt := 6) dX12_agreeIn_86 (by decide) (sk_id)))))) (s_aload_n dX12_agreeIn_59 rfl (s_aload_n dX12_agreeIn_60 rfl (s_iload_n dX12_agreeIn_61 rfl (s_iload dX12_agreeIn_62 (s_invT (X := xX12_signOf) (ci := 12) (T := TX12) (N := 49) (K := (fun Q => kX12_signOf_0 g (d - 1) 0 0 Q)) (fun _ => tX12_signOf_0) rfl dX12_agreeIn_64 m_X12_signOf rfl (by decide) qm_X12_349 qi_X12_signOf qe_X12_signOf (s_iload dX12_agreeIn_67 (s_invB (w' := (g, d, ck, sk, xX12_agreeIn, Q)) (ci := 12) (ck := 0) (sk := 0) (T := TX12) (N := 49) dX12_agreeIn_69 m_X12_howAt rfl (by decide) qm_X12_405 qi_X12_howAt qe_X12_howAt rfl (s_ifne (tgt := 79) dX12_agreeIn_72 (by decide) (s_iconst dX12_agreeIn_79 (s_iadd dX12_agreeIn_80 (s_istore dX12_agreeIn_81 (by decide : 4 < 7) (s_iinc dX12_agreeIn_83 (by decide : 5 < 7) (s_goto (tgt := 6) dX12_agreeIn_86 (by decide) (sk_id)))))) (s_iconst dX12_agreeIn_75 (s_goto (tgt := 80) dX12_agreeIn_76 (by decide) (s_iadd dX12_agreeIn_80 (s_istore dX12_agreeIn_81 (by decide : 4 < 7) (s_iinc dX12_agreeIn_83 (by decide : 5 < 7) (s_goto (tgt := 6) dX12_agreeIn_86 (by decide) (sk_id))))))))))))))))))))))))))))))))))))))))))))))
theorem dX12_takeBack_0 : decode cX12_takeBack 0 = .ok (.iconst 0, 1) := by decide +kernel
theorem dX12_takeBack_1 : decode cX12_takeBack 1 = .ok (.istore_n 1, 1) := by decide +kernel
theorem dX12_takeBack_2 : decode cX12_takeBack 2 = .ok (.iload_n 1, 1) := by decide +kernel
theorem dX12_takeBack_3 : decode cX12_takeBack 3 = .ok (.sipush 762, 3) := by decide +kernel
theorem dX12_takeBack_6 : decode cX12_takeBack 6 = .ok (.if_icmp .ge 21, 3) := by decide +kernel
theorem dX12_takeBack_9 : decode cX12_takeBack 9 = .ok (.aload_n 0, 1) := by decide +kernel
theorem dX12_takeBack_10 : decode cX12_takeBack 10 = .ok (.getfield 61, 3) := by decide +kernel
theorem dX12_takeBack_13 : decode cX12_takeBack 13 = .ok (.iload_n 1, 1) := by decide +kernel
theorem dX12_takeBack_14 : decode cX12_takeBack 14 = .ok (.aload_n 0, 1) := by decide +kernel
theorem dX12_takeBack_15 : decode cX12_takeBack 15 = .ok (.getfield 81, 3) := by decide +kernel
theorem dX12_takeBack_18 : decode cX12_takeBack 18 = .ok (.iload_n 1, 1) := by decide +kernel
theorem dX12_takeBack_19 : decode cX12_takeBack 19 = .ok (.iaload, 1) := by decide +kernel
theorem dX12_takeBack_20 : decode cX12_takeBack 20 = .ok (.iastore, 1) := by decide +kernel
theorem dX12_takeBack_21 : decode cX12_takeBack 21 = .ok (.iinc 1 1, 3) := by decide +kernel
theorem dX12_takeBack_24 : decode cX12_takeBack 24 = .ok (.goto (-22), 3) := by decide +kernel
theorem dX12_takeBack_27 : decode cX12_takeBack 27 = .ok (.return_, 1) := by decide +kernel
def kX12_takeBack_0 (g : sk_G) (d ck sk : Nat) (Q : sk_P) : sk_K := o_i (0) (o_istore 1 (sk_B (g, d, ck, sk, xX12_takeBack, Q) 2))
theorem tX12_takeBack_0 {g : sk_G} {d ck sk : Nat} {Q : sk_P} : sk_S (g, d, ck, sk, xX12_takeBack, Q) 0 (kX12_takeBack_0 g d ck sk Q) := s_iconst dX12_takeBack_0 (s_istore_n dX12_takeBack_1 rfl (by decide : 1 < 2) (sk_id))
set_option maxRecDepth 20000 in
def kX12_takeBack_2 (g : sk_G) (d ck sk : Nat) (Q : sk_P) : sk_K := o_iload 1 (o_i (762) (o_icge (o_ret (g, d, ck, sk, xX12_takeBack, Q)) (o_aload 0 (o_getf 12 28 (o_iload 1 (o_aload 0 (o_getf 12 38 (o_iload 1 (o_iaload (o_iastore (o_iinc 1 (1) (sk_B (g, d, ck, sk, xX12_takeBack, Q) 2))))))))))))
set_option maxRecDepth 20000 in
theorem tX12_takeBack_2 {g : sk_G} {d ck sk : Nat} {Q : sk_P} : sk_S (g, d, ck, sk, xX12_takeBack, Q) 2 (kX12_takeBack_2 g d ck sk Q) := s_iload_n dX12_takeBack_2 rfl (s_sipush dX12_takeBack_3 rfl (s_icge (tgt := 27) dX12_takeBack_6 (by decide) (s_ret dX12_takeBack_27 rfl) (s_aload_n dX12_takeBack_9 rfl (s_getf (ci := 12) (j := 28) (C := RX12) (T := TX12) (N := 49) dX12_takeBack_10 rfl (by decide) (by decide) qf_X12_61 (s_iload_n dX12_takeBack_13 rfl (s_aload_n dX12_takeBack_14 rfl (s_getf (ci := 12) (j := 38) (C := RX12) (T := TX12) (N := 49) dX12_takeBack_15 rfl (by decide) (by decide) qf_X12_81 (s_iload_n dX12_takeBack_18 rfl (s_iaload dX12_takeBack_19 (s_iastore dX12_takeBack_20 (s_iinc dX12_takeBack_21 (by decide : 1 < 2) (s_goto (tgt := 2) dX12_takeBack_24 (by decide) (sk_id)))))))))))))
theorem dX12_faded_0 : decode cX12_faded 0 = .ok (.aload_n 0, 1) := by decide +kernel
theorem dX12_faded_1 : decode cX12_faded 1 = .ok (.iload_n 1, 1) := by decide +kernel
theorem dX12_faded_2 : decode cX12_faded 2 = .ok (.iload_n 2, 1) := by decide +kernel
theorem dX12_faded_3 : decode cX12_faded 3 = .ok (.invokevirtual 408, 3) := by decide +kernel
theorem dX12_faded_6 : decode cX12_faded 6 = .ok (.ifCond .eq 13, 3) := by decide +kernel
theorem dX12_faded_9 : decode cX12_faded 9 = .ok (.iload_n 3, 1) := by decide +kernel
theorem dX12_faded_10 : decode cX12_faded 10 = .ok (.iconst 1, 1) := by decide +kernel
theorem dX12_faded_11 : decode cX12_faded 11 = .ok (.bipush 16, 2) := by decide +kernel
theorem dX12_faded_13 : decode cX12_faded 13 = .ok (.invokestatic 224, 3) := by decide +kernel
theorem dX12_faded_16 : decode cX12_faded 16 = .ok (.ifCond .ne 5, 3) := by decide +kernel
theorem dX12_faded_19 : decode cX12_faded 19 = .ok (.iconst (-1), 1) := by decide +kernel
theorem dX12_faded_20 : decode cX12_faded 20 = .ok (.ireturn, 1) := by decide +kernel
theorem dX12_faded_21 : decode cX12_faded 21 = .ok (.aload_n 0, 1) := by decide +kernel
theorem dX12_faded_22 : decode cX12_faded 22 = .ok (.invokevirtual 429, 3) := by decide +kernel
theorem dX12_faded_25 : decode cX12_faded 25 = .ok (.iconst 0, 1) := by decide +kernel
theorem dX12_faded_26 : decode cX12_faded 26 = .ok (.istore 4, 2) := by decide +kernel
theorem dX12_faded_28 : decode cX12_faded 28 = .ok (.iload 4, 2) := by decide +kernel
theorem dX12_faded_30 : decode cX12_faded 30 = .ok (.bipush 99, 2) := by decide +kernel
theorem dX12_faded_32 : decode cX12_faded 32 = .ok (.if_icmp .ge 25, 3) := by decide +kernel
theorem dX12_faded_35 : decode cX12_faded 35 = .ok (.aload_n 0, 1) := by decide +kernel
theorem dX12_faded_36 : decode cX12_faded 36 = .ok (.iload_n 1, 1) := by decide +kernel
theorem dX12_faded_37 : decode cX12_faded 37 = .ok (.iload_n 2, 1) := by decide +kernel
theorem dX12_faded_38 : decode cX12_faded 38 = .ok (.iconst 0, 1) := by decide +kernel
theorem dX12_faded_39 : decode cX12_faded 39 = .ok (.invokevirtual 411, 3) := by decide +kernel
theorem dX12_faded_42 : decode cX12_faded 42 = .ok (.iload_n 3, 1) := by decide +kernel
theorem dX12_faded_43 : decode cX12_faded 43 = .ok (.if_icmp .lt 14, 3) := by decide +kernel
theorem dX12_faded_46 : decode cX12_faded 46 = .ok (.aload_n 0, 1) := by decide +kernel
theorem dX12_faded_47 : decode cX12_faded 47 = .ok (.invokevirtual 327, 3) := by decide +kernel
theorem dX12_faded_50 : decode cX12_faded 50 = .ok (.pop, 1) := by decide +kernel
theorem dX12_faded_51 : decode cX12_faded 51 = .ok (.iinc 4 1, 3) := by decide +kernel
theorem dX12_faded_54 : decode cX12_faded 54 = .ok (.goto (-26), 3) := by decide +kernel
theorem dX12_faded_57 : decode cX12_faded 57 = .ok (.aload_n 0, 1) := by decide +kernel
theorem dX12_faded_58 : decode cX12_faded 58 = .ok (.iload_n 1, 1) := by decide +kernel
theorem dX12_faded_59 : decode cX12_faded 59 = .ok (.iload_n 2, 1) := by decide +kernel
theorem dX12_faded_60 : decode cX12_faded 60 = .ok (.iconst 0, 1) := by decide +kernel
theorem dX12_faded_61 : decode cX12_faded 61 = .ok (.invokevirtual 411, 3) := by decide +kernel
theorem dX12_faded_64 : decode cX12_faded 64 = .ok (.iload_n 3, 1) := by decide +kernel
theorem dX12_faded_65 : decode cX12_faded 65 = .ok (.if_icmp .ge 7, 3) := by decide +kernel
theorem dX12_faded_68 : decode cX12_faded 68 = .ok (.iconst 1, 1) := by decide +kernel
theorem dX12_faded_69 : decode cX12_faded 69 = .ok (.goto 4, 3) := by decide +kernel
theorem dX12_faded_72 : decode cX12_faded 72 = .ok (.iconst 0, 1) := by decide +kernel
theorem dX12_faded_73 : decode cX12_faded 73 = .ok (.istore 5, 2) := by decide +kernel
theorem dX12_faded_75 : decode cX12_faded 75 = .ok (.aload_n 0, 1) := by decide +kernel
theorem dX12_faded_76 : decode cX12_faded 76 = .ok (.invokevirtual 435, 3) := by decide +kernel
theorem dX12_faded_79 : decode cX12_faded 79 = .ok (.iload 5, 2) := by decide +kernel
theorem dX12_faded_81 : decode cX12_faded 81 = .ok (.ifCond .eq 8, 3) := by decide +kernel
theorem dX12_faded_84 : decode cX12_faded 84 = .ok (.iload 4, 2) := by decide +kernel
theorem dX12_faded_86 : decode cX12_faded 86 = .ok (.goto 4, 3) := by decide +kernel
theorem dX12_faded_89 : decode cX12_faded 89 = .ok (.iconst (-1), 1) := by decide +kernel
theorem dX12_faded_90 : decode cX12_faded 90 = .ok (.ireturn, 1) := by decide +kernel
set_option maxRecDepth 20000 in
def kX12_faded_0 (g : sk_G) (d ck sk : Nat) (Q : sk_P) : sk_K := o_aload 0 (o_iload 1 (o_iload 2 (o_invB (g, d, ck, sk, xX12_faded, Q) xX12_isSpot 2 12 0 0 (o_ifeq (o_i (-1) (o_iret (g, d, ck, sk, xX12_faded, Q))) (o_iload 3 (o_i (1) (o_i (16) (o_stcT (g, d, ck, sk, xX12_faded, Q) 3 3 (fun Q => kX12_in_0 g (d - 1) 0 0 Q) (o_ifne (o_aload 0 (o_invB (g, d, ck, sk, xX12_faded, Q) xX12_putAside 0 12 0 0 (o_i (0) (o_istore 4 (sk_B (g, d, ck, sk, xX12_faded, Q) 28))))) (o_i (-1) (o_iret (g, d, ck, sk, xX12_faded, Q))))))))))))
set_option maxRecDepth 20000 in
theorem tX12_faded_0 {g : sk_G} {d ck sk : Nat} {Q : sk_P} : sk_S (g, d, ck, sk, xX12_faded, Q) 0 (kX12_faded_0 g d ck sk Q) := s_aload_n dX12_faded_0 rfl (s_iload_n dX12_faded_1 rfl (s_iload_n dX12_faded_2 rfl (s_invB (w' := (g, d, ck, sk, xX12_faded, Q)) (ci := 12) (ck := 0) (sk := 0) (T := TX12) (N := 49) dX12_faded_3 m_X12_isSpot rfl (by decide) qm_X12_408 qi_X12_isSpot qe_X12_isSpot rfl (s_ifeq (tgt := 19) dX12_faded_6 (by decide) (s_iconst dX12_faded_19 (s_iret dX12_faded_20 rfl)) (s_iload_n dX12_faded_9 rfl (s_iconst dX12_faded_10 (s_bipush dX12_faded_11 rfl (s_stcT (X := xX12_in) (K := (fun Q => kX12_in_0 g (d - 1) 0 0 Q)) (fun _ => tX12_in_0) rfl dX12_faded_13 m_X12_in qm_X12_224 qs_X12_in (s_ifne (tgt := 21) dX12_faded_16 (by decide) (s_aload_n dX12_faded_21 rfl (s_invB (w' := (g, d, ck, sk, xX12_faded, Q)) (ci := 12) (ck := 0) (sk := 0) (T := TX12) (N := 49) dX12_faded_22 m_X12_putAside rfl (by decide) qm_X12_429 qi_X12_putAside qe_X12_putAside rfl (s_iconst dX12_faded_25 (s_istore dX12_faded_26 (by decide : 4 < 6) (sk_id))))) (s_iconst dX12_faded_19 (s_iret dX12_faded_20 rfl)))))))))))
set_option maxRecDepth 20000 in
def kX12_faded_28 (g : sk_G) (d ck sk : Nat) (Q : sk_P) : sk_K := o_iload 4 (o_i (99) (o_icge (sk_B (g, d, ck, sk, xX12_faded, Q) 57) (o_aload 0 (o_iload 1 (o_iload 2 (o_i (0) (o_invB (g, d, ck, sk, xX12_faded, Q) xX12_manyWho 3 12 0 0 (o_iload 3 (o_iclt (sk_B (g, d, ck, sk, xX12_faded, Q) 57) (o_aload 0 (o_invB (g, d, ck, sk, xX12_faded, Q) xX12_live 0 12 0 0 (o_pop (o_iinc 4 (1) (sk_B (g, d, ck, sk, xX12_faded, Q) 28))))))))))))))
set_option maxRecDepth 20000 in
theorem tX12_faded_28 {g : sk_G} {d ck sk : Nat} {Q : sk_P} : sk_S (g, d, ck, sk, xX12_faded, Q) 28 (kX12_faded_28 g d ck sk Q) := s_iload dX12_faded_28 (s_bipush dX12_faded_30 rfl (s_icge (tgt := 57) dX12_faded_32 (by decide) (sk_id) (s_aload_n dX12_faded_35 rfl (s_iload_n dX12_faded_36 rfl (s_iload_n dX12_faded_37 rfl (s_iconst dX12_faded_38 (s_invB (w' := (g, d, ck, sk, xX12_faded, Q)) (ci := 12) (ck := 0) (sk := 0) (T := TX12) (N := 49) dX12_faded_39 m_X12_manyWho rfl (by decide) qm_X12_411 qi_X12_manyWho qe_X12_manyWho rfl (s_iload_n dX12_faded_42 rfl (s_iclt (tgt := 57) dX12_faded_43 (by decide) (sk_id) (s_aload_n dX12_faded_46 rfl (s_invB (w' := (g, d, ck, sk, xX12_faded, Q)) (ci := 12) (ck := 0) (sk := 0) (T := TX12) (N := 49) dX12_faded_47 m_X12_live rfl (by decide) qm_X12_327 qi_X12_live qe_X12_live rfl (s_pop dX12_faded_50 (s_iinc dX12_faded_51 (by decide : 4 < 6) (s_goto (tgt := 28) dX12_faded_54 (by decide) (sk_id)))))))))))))))
def kX12_faded_57 (g : sk_G) (d ck sk : Nat) (Q : sk_P) : sk_K := o_aload 0 (o_iload 1 (o_iload 2 (o_i (0) (o_invB (g, d, ck, sk, xX12_faded, Q) xX12_manyWho 3 12 0 0 (o_iload 3 (o_icge (o_i (0) (sk_B (g, d, ck, sk, xX12_faded, Q) 73)) (o_i (1) (sk_B (g, d, ck, sk, xX12_faded, Q) 73))))))))
theorem tX12_faded_57 {g : sk_G} {d ck sk : Nat} {Q : sk_P} : sk_S (g, d, ck, sk, xX12_faded, Q) 57 (kX12_faded_57 g d ck sk Q) := s_aload_n dX12_faded_57 rfl (s_iload_n dX12_faded_58 rfl (s_iload_n dX12_faded_59 rfl (s_iconst dX12_faded_60 (s_invB (w' := (g, d, ck, sk, xX12_faded, Q)) (ci := 12) (ck := 0) (sk := 0) (T := TX12) (N := 49) dX12_faded_61 m_X12_manyWho rfl (by decide) qm_X12_411 qi_X12_manyWho qe_X12_manyWho rfl (s_iload_n dX12_faded_64 rfl (s_icge (tgt := 72) dX12_faded_65 (by decide) (s_iconst dX12_faded_72 (sk_id)) (s_iconst dX12_faded_68 (s_goto (tgt := 73) dX12_faded_69 (by decide) (sk_id)))))))))
def kX12_faded_73 (g : sk_G) (d ck sk : Nat) (Q : sk_P) : sk_K := o_istore 5 (o_aload 0 (o_invB (g, d, ck, sk, xX12_faded, Q) xX12_takeBack 0 12 0 0 (o_iload 5 (o_ifeq (o_i (-1) (o_iret (g, d, ck, sk, xX12_faded, Q))) (o_iload 4 (o_iret (g, d, ck, sk, xX12_faded, Q)))))))
theorem tX12_faded_73 {g : sk_G} {d ck sk : Nat} {Q : sk_P} : sk_S (g, d, ck, sk, xX12_faded, Q) 73 (kX12_faded_73 g d ck sk Q) := s_istore dX12_faded_73 (by decide : 5 < 6) (s_aload_n dX12_faded_75 rfl (s_invB (w' := (g, d, ck, sk, xX12_faded, Q)) (ci := 12) (ck := 0) (sk := 0) (T := TX12) (N := 49) dX12_faded_76 m_X12_takeBack rfl (by decide) qm_X12_435 qi_X12_takeBack qe_X12_takeBack rfl (s_iload dX12_faded_79 (s_ifeq (tgt := 89) dX12_faded_81 (by decide) (s_iconst dX12_faded_89 (s_iret dX12_faded_90 rfl)) (s_iload dX12_faded_84 (s_goto (tgt := 90) dX12_faded_86 (by decide) (s_iret dX12_faded_90 rfl)))))))
theorem dX12_noted_0 : decode cX12_noted 0 = .ok (.aload_n 0, 1) := by decide +kernel
theorem dX12_noted_1 : decode cX12_noted 1 = .ok (.iload_n 1, 1) := by decide +kernel
theorem dX12_noted_2 : decode cX12_noted 2 = .ok (.invokevirtual 355, 3) := by decide +kernel
theorem dX12_noted_5 : decode cX12_noted 5 = .ok (.ifCond .eq 22, 3) := by decide +kernel
theorem dX12_noted_8 : decode cX12_noted 8 = .ok (.iload_n 2, 1) := by decide +kernel
theorem dX12_noted_9 : decode cX12_noted 9 = .ok (.iconst 0, 1) := by decide +kernel
theorem dX12_noted_10 : decode cX12_noted 10 = .ok (.bipush 25, 2) := by decide +kernel
theorem dX12_noted_12 : decode cX12_noted 12 = .ok (.invokestatic 224, 3) := by decide +kernel
theorem dX12_noted_15 : decode cX12_noted 15 = .ok (.ifCond .eq 12, 3) := by decide +kernel
theorem dX12_noted_18 : decode cX12_noted 18 = .ok (.aload_n 0, 1) := by decide +kernel
theorem dX12_noted_19 : decode cX12_noted 19 = .ok (.getfield 276, 3) := by decide +kernel
theorem dX12_noted_22 : decode cX12_noted 22 = .ok (.bipush 10, 2) := by decide +kernel
theorem dX12_noted_24 : decode cX12_noted 24 = .ok (.if_icmp .ne 5, 3) := by decide +kernel
theorem dX12_noted_27 : decode cX12_noted 27 = .ok (.iconst (-1), 1) := by decide +kernel
theorem dX12_noted_28 : decode cX12_noted 28 = .ok (.ireturn, 1) := by decide +kernel
theorem dX12_noted_29 : decode cX12_noted 29 = .ok (.aload_n 0, 1) := by decide +kernel
theorem dX12_noted_30 : decode cX12_noted 30 = .ok (.getfield 93, 3) := by decide +kernel
theorem dX12_noted_33 : decode cX12_noted 33 = .ok (.aload_n 0, 1) := by decide +kernel
theorem dX12_noted_34 : decode cX12_noted 34 = .ok (.getfield 276, 3) := by decide +kernel
theorem dX12_noted_37 : decode cX12_noted 37 = .ok (.iload_n 1, 1) := by decide +kernel
theorem dX12_noted_38 : decode cX12_noted 38 = .ok (.iastore, 1) := by decide +kernel
theorem dX12_noted_39 : decode cX12_noted 39 = .ok (.aload_n 0, 1) := by decide +kernel
theorem dX12_noted_40 : decode cX12_noted 40 = .ok (.getfield 96, 3) := by decide +kernel
theorem dX12_noted_43 : decode cX12_noted 43 = .ok (.aload_n 0, 1) := by decide +kernel
theorem dX12_noted_44 : decode cX12_noted 44 = .ok (.getfield 276, 3) := by decide +kernel
theorem dX12_noted_47 : decode cX12_noted 47 = .ok (.iload_n 2, 1) := by decide +kernel
theorem dX12_noted_48 : decode cX12_noted 48 = .ok (.iastore, 1) := by decide +kernel
theorem dX12_noted_49 : decode cX12_noted 49 = .ok (.aload_n 0, 1) := by decide +kernel
theorem dX12_noted_50 : decode cX12_noted 50 = .ok (.getfield 99, 3) := by decide +kernel
theorem dX12_noted_53 : decode cX12_noted 53 = .ok (.aload_n 0, 1) := by decide +kernel
theorem dX12_noted_54 : decode cX12_noted 54 = .ok (.getfield 276, 3) := by decide +kernel
theorem dX12_noted_57 : decode cX12_noted 57 = .ok (.iload_n 3, 1) := by decide +kernel
theorem dX12_noted_58 : decode cX12_noted 58 = .ok (.bastore, 1) := by decide +kernel
theorem dX12_noted_59 : decode cX12_noted 59 = .ok (.aload_n 0, 1) := by decide +kernel
theorem dX12_noted_60 : decode cX12_noted 60 = .ok (.dup, 1) := by decide +kernel
theorem dX12_noted_61 : decode cX12_noted 61 = .ok (.getfield 276, 3) := by decide +kernel
theorem dX12_noted_64 : decode cX12_noted 64 = .ok (.iconst 1, 1) := by decide +kernel
theorem dX12_noted_65 : decode cX12_noted 65 = .ok (.iadd, 1) := by decide +kernel
theorem dX12_noted_66 : decode cX12_noted 66 = .ok (.putfield 276, 3) := by decide +kernel
theorem dX12_noted_69 : decode cX12_noted 69 = .ok (.aload_n 0, 1) := by decide +kernel
theorem dX12_noted_70 : decode cX12_noted 70 = .ok (.getfield 276, 3) := by decide +kernel
theorem dX12_noted_73 : decode cX12_noted 73 = .ok (.ireturn, 1) := by decide +kernel
set_option maxRecDepth 20000 in
def kX12_noted_0 (g : sk_G) (d ck sk : Nat) (Q : sk_P) : sk_K := o_aload 0 (o_iload 1 (o_invT (g, d, ck, sk, xX12_noted, Q) 2 1 12 (fun Q => kX12_isCell_0 g (d - 1) 0 0 Q) (o_ifeq (o_i (-1) (o_iret (g, d, ck, sk, xX12_noted, Q))) (o_iload 2 (o_i (0) (o_i (25) (o_stcT (g, d, ck, sk, xX12_noted, Q) 3 3 (fun Q => kX12_in_0 g (d - 1) 0 0 Q) (o_ifeq (o_i (-1) (o_iret (g, d, ck, sk, xX12_noted, Q))) (o_aload 0 (o_getf 12 45 (o_i (10) (o_icne (o_aload 0 (o_getf 12 42 (o_aload 0 (o_getf 12 45 (o_iload 1 (o_iastore (o_aload 0 (o_getf 12 43 (o_aload 0 (o_getf 12 45 (o_iload 2 (o_iastore (o_aload 0 (o_getf 12 44 (o_aload 0 (o_getf 12 45 (o_iload 3 (o_bastore (o_aload 0 (o_dup (o_getf 12 45 (o_i (1) (o_iadd (o_puti 12 45 (o_aload 0 (o_getf 12 45 (o_iret (g, d, ck, sk, xX12_noted, Q)))))))))))))))))))))))))))) (o_i (-1) (o_iret (g, d, ck, sk, xX12_noted, Q)))))))))))))))
set_option maxRecDepth 20000 in
theorem tX12_noted_0 {g : sk_G} {d ck sk : Nat} {Q : sk_P} : sk_S (g, d, ck, sk, xX12_noted, Q) 0 (kX12_noted_0 g d ck sk Q) := s_aload_n dX12_noted_0 rfl (s_iload_n dX12_noted_1 rfl (s_invT (X := xX12_isCell) (ci := 12) (T := TX12) (N := 49) (K := (fun Q => kX12_isCell_0 g (d - 1) 0 0 Q)) (fun _ => tX12_isCell_0) rfl dX12_noted_2 m_X12_isCell rfl (by decide) qm_X12_355 qi_X12_isCell qe_X12_isCell (s_ifeq (tgt := 27) dX12_noted_5 (by decide) (s_iconst dX12_noted_27 (s_iret dX12_noted_28 rfl)) (s_iload_n dX12_noted_8 rfl (s_iconst dX12_noted_9 (s_bipush dX12_noted_10 rfl (s_stcT (X := xX12_in) (K := (fun Q => kX12_in_0 g (d - 1) 0 0 Q)) (fun _ => tX12_in_0) rfl dX12_noted_12 m_X12_in qm_X12_224 qs_X12_in (s_ifeq (tgt := 27) dX12_noted_15 (by decide) (s_iconst dX12_noted_27 (s_iret dX12_noted_28 rfl)) (s_aload_n dX12_noted_18 rfl (s_getf (ci := 12) (j := 45) (C := RX12) (T := TX12) (N := 49) dX12_noted_19 rfl (by decide) (by decide) qf_X12_276 (s_bipush dX12_noted_22 rfl (s_icne (tgt := 29) dX12_noted_24 (by decide) (s_aload_n dX12_noted_29 rfl (s_getf (ci := 12) (j := 42) (C := RX12) (T := TX12) (N := 49) dX12_noted_30 rfl (by decide) (by decide) qf_X12_93 (s_aload_n dX12_noted_33 rfl (s_getf (ci := 12) (j := 45) (C := RX12) (T := TX12) (N := 49) dX12_noted_34 rfl (by decide) (by decide) qf_X12_276 (s_iload_n dX12_noted_37 rfl (s_iastore dX12_noted_38 (s_aload_n dX12_noted_39 rfl (s_getf (ci := 12) (j := 43) (C := RX12) (T := TX12) (N := 49) dX12_noted_40 rfl (by decide) (by decide) qf_X12_96 (s_aload_n dX12_noted_43 rfl (s_getf (ci := 12) (j := 45) (C := RX12) (T := TX12) (N := 49) dX12_noted_44 rfl (by decide) (by decide) qf_X12_276 (s_iload_n dX12_noted_47 rfl (s_iastore dX12_noted_48 (s_aload_n dX12_noted_49 rfl (s_getf (ci := 12) (j := 44) (C := RX12) (T := TX12) (N := 49) dX12_noted_50 rfl (by decide) (by decide) qf_X12_99 (s_aload_n dX12_noted_53 rfl (s_getf (ci := 12) (j := 45) (C := RX12) (T := TX12) (N := 49) dX12_noted_54 rfl (by decide) (by decide) qf_X12_276 (s_iload_n dX12_noted_57 rfl (s_bastore dX12_noted_58 (s_aload_n dX12_noted_59 rfl (s_dup dX12_noted_60 (s_getf (ci := 12) (j := 45) (C := RX12) (T := TX12) (N := 49) dX12_noted_61 rfl (by decide) (by decide) qf_X12_276 (s_iconst dX12_noted_64 (s_iadd dX12_noted_65 (s_puti (ci := 12) (j := 45) (C := RX12) (T := TX12) (N := 49) dX12_noted_66 rfl (by decide) (by decide) rfl (tyX12_ok 45 (by decide)) qf_X12_276 (s_aload_n dX12_noted_69 rfl (s_getf (ci := 12) (j := 45) (C := RX12) (T := TX12) (N := 49) dX12_noted_70 rfl (by decide) (by decide) qf_X12_276 (s_iret dX12_noted_73 rfl))))))))))))))))))))))))))) (s_iconst dX12_noted_27 (s_iret dX12_noted_28 rfl))))))))))))))
theorem dX12_fits_0 : decode cX12_fits 0 = .ok (.aload_n 0, 1) := by decide +kernel
theorem dX12_fits_1 : decode cX12_fits 1 = .ok (.getfield 273, 3) := by decide +kernel
theorem dX12_fits_4 : decode cX12_fits 4 = .ok (.ifCond .eq 8, 3) := by decide +kernel
theorem dX12_fits_7 : decode cX12_fits 7 = .ok (.iload_n 1, 1) := by decide +kernel
theorem dX12_fits_8 : decode cX12_fits 8 = .ok (.iconst (-1), 1) := by decide +kernel
theorem dX12_fits_9 : decode cX12_fits 9 = .ok (.if_icmp .ge 5, 3) := by decide +kernel
theorem dX12_fits_12 : decode cX12_fits 12 = .ok (.iconst (-1), 1) := by decide +kernel
theorem dX12_fits_13 : decode cX12_fits 13 = .ok (.ireturn, 1) := by decide +kernel
theorem dX12_fits_14 : decode cX12_fits 14 = .ok (.iconst 0, 1) := by decide +kernel
theorem dX12_fits_15 : decode cX12_fits 15 = .ok (.istore_n 2, 1) := by decide +kernel
theorem dX12_fits_16 : decode cX12_fits 16 = .ok (.iconst 0, 1) := by decide +kernel
theorem dX12_fits_17 : decode cX12_fits 17 = .ok (.istore_n 3, 1) := by decide +kernel
theorem dX12_fits_18 : decode cX12_fits 18 = .ok (.iload_n 3, 1) := by decide +kernel
theorem dX12_fits_19 : decode cX12_fits 19 = .ok (.aload_n 0, 1) := by decide +kernel
theorem dX12_fits_20 : decode cX12_fits 20 = .ok (.getfield 292, 3) := by decide +kernel
theorem dX12_fits_23 : decode cX12_fits 23 = .ok (.if_icmp .ge 56, 3) := by decide +kernel
theorem dX12_fits_26 : decode cX12_fits 26 = .ok (.iconst 0, 1) := by decide +kernel
theorem dX12_fits_27 : decode cX12_fits 27 = .ok (.istore 4, 2) := by decide +kernel
theorem dX12_fits_29 : decode cX12_fits 29 = .ok (.iload 4, 2) := by decide +kernel
theorem dX12_fits_31 : decode cX12_fits 31 = .ok (.iconst 4, 1) := by decide +kernel
theorem dX12_fits_32 : decode cX12_fits 32 = .ok (.aload_n 0, 1) := by decide +kernel
theorem dX12_fits_33 : decode cX12_fits 33 = .ok (.getfield 273, 3) := by decide +kernel
theorem dX12_fits_36 : decode cX12_fits 36 = .ok (.imul, 1) := by decide +kernel
theorem dX12_fits_37 : decode cX12_fits 37 = .ok (.if_icmp .ge 36, 3) := by decide +kernel
theorem dX12_fits_40 : decode cX12_fits 40 = .ok (.aload_n 0, 1) := by decide +kernel
theorem dX12_fits_41 : decode cX12_fits 41 = .ok (.iload_n 3, 1) := by decide +kernel
theorem dX12_fits_42 : decode cX12_fits 42 = .ok (.iload 4, 2) := by decide +kernel
theorem dX12_fits_44 : decode cX12_fits 44 = .ok (.invokevirtual 445, 3) := by decide +kernel
theorem dX12_fits_47 : decode cX12_fits 47 = .ok (.ifCond .eq 20, 3) := by decide +kernel
theorem dX12_fits_50 : decode cX12_fits 50 = .ok (.iload_n 2, 1) := by decide +kernel
theorem dX12_fits_51 : decode cX12_fits 51 = .ok (.iload_n 1, 1) := by decide +kernel
theorem dX12_fits_52 : decode cX12_fits 52 = .ok (.if_icmp .ne 12, 3) := by decide +kernel
theorem dX12_fits_55 : decode cX12_fits 55 = .ok (.sipush 1000, 3) := by decide +kernel
theorem dX12_fits_58 : decode cX12_fits 58 = .ok (.iload_n 3, 1) := by decide +kernel
theorem dX12_fits_59 : decode cX12_fits 59 = .ok (.imul, 1) := by decide +kernel
theorem dX12_fits_60 : decode cX12_fits 60 = .ok (.iload 4, 2) := by decide +kernel
theorem dX12_fits_62 : decode cX12_fits 62 = .ok (.iadd, 1) := by decide +kernel
theorem dX12_fits_63 : decode cX12_fits 63 = .ok (.ireturn, 1) := by decide +kernel
theorem dX12_fits_64 : decode cX12_fits 64 = .ok (.iinc 2 1, 3) := by decide +kernel
theorem dX12_fits_67 : decode cX12_fits 67 = .ok (.iinc 4 1, 3) := by decide +kernel
theorem dX12_fits_70 : decode cX12_fits 70 = .ok (.goto (-41), 3) := by decide +kernel
theorem dX12_fits_73 : decode cX12_fits 73 = .ok (.iinc 3 1, 3) := by decide +kernel
theorem dX12_fits_76 : decode cX12_fits 76 = .ok (.goto (-58), 3) := by decide +kernel
theorem dX12_fits_79 : decode cX12_fits 79 = .ok (.iload_n 1, 1) := by decide +kernel
theorem dX12_fits_80 : decode cX12_fits 80 = .ok (.iconst (-1), 1) := by decide +kernel
theorem dX12_fits_81 : decode cX12_fits 81 = .ok (.if_icmp .ne 7, 3) := by decide +kernel
theorem dX12_fits_84 : decode cX12_fits 84 = .ok (.iload_n 2, 1) := by decide +kernel
theorem dX12_fits_85 : decode cX12_fits 85 = .ok (.goto 4, 3) := by decide +kernel
theorem dX12_fits_88 : decode cX12_fits 88 = .ok (.iconst (-1), 1) := by decide +kernel
theorem dX12_fits_89 : decode cX12_fits 89 = .ok (.ireturn, 1) := by decide +kernel
def kX12_fits_0 (g : sk_G) (d ck sk : Nat) (Q : sk_P) : sk_K := o_aload 0 (o_getf 12 23 (o_ifeq (o_i (-1) (o_iret (g, d, ck, sk, xX12_fits, Q))) (o_iload 1 (o_i (-1) (o_icge (o_i (0) (o_istore 2 (o_i (0) (o_istore 3 (sk_B (g, d, ck, sk, xX12_fits, Q) 18))))) (o_i (-1) (o_iret (g, d, ck, sk, xX12_fits, Q))))))))
theorem tX12_fits_0 {g : sk_G} {d ck sk : Nat} {Q : sk_P} : sk_S (g, d, ck, sk, xX12_fits, Q) 0 (kX12_fits_0 g d ck sk Q) := s_aload_n dX12_fits_0 rfl (s_getf (ci := 12) (j := 23) (C := RX12) (T := TX12) (N := 49) dX12_fits_1 rfl (by decide) (by decide) qf_X12_273 (s_ifeq (tgt := 12) dX12_fits_4 (by decide) (s_iconst dX12_fits_12 (s_iret dX12_fits_13 rfl)) (s_iload_n dX12_fits_7 rfl (s_iconst dX12_fits_8 (s_icge (tgt := 14) dX12_fits_9 (by decide) (s_iconst dX12_fits_14 (s_istore_n dX12_fits_15 rfl (by decide : 2 < 5) (s_iconst dX12_fits_16 (s_istore_n dX12_fits_17 rfl (by decide : 3 < 5) (sk_id))))) (s_iconst dX12_fits_12 (s_iret dX12_fits_13 rfl)))))))
def kX12_fits_18 (g : sk_G) (d ck sk : Nat) (Q : sk_P) : sk_K := o_iload 3 (o_aload 0 (o_getf 12 27 (o_icge (o_iload 1 (o_i (-1) (o_icne (o_i (-1) (o_iret (g, d, ck, sk, xX12_fits, Q))) (o_iload 2 (o_iret (g, d, ck, sk, xX12_fits, Q)))))) (o_i (0) (o_istore 4 (sk_B (g, d, ck, sk, xX12_fits, Q) 29))))))
theorem tX12_fits_18 {g : sk_G} {d ck sk : Nat} {Q : sk_P} : sk_S (g, d, ck, sk, xX12_fits, Q) 18 (kX12_fits_18 g d ck sk Q) := s_iload_n dX12_fits_18 rfl (s_aload_n dX12_fits_19 rfl (s_getf (ci := 12) (j := 27) (C := RX12) (T := TX12) (N := 49) dX12_fits_20 rfl (by decide) (by decide) qf_X12_292 (s_icge (tgt := 79) dX12_fits_23 (by decide) (s_iload_n dX12_fits_79 rfl (s_iconst dX12_fits_80 (s_icne (tgt := 88) dX12_fits_81 (by decide) (s_iconst dX12_fits_88 (s_iret dX12_fits_89 rfl)) (s_iload_n dX12_fits_84 rfl (s_goto (tgt := 89) dX12_fits_85 (by decide) (s_iret dX12_fits_89 rfl)))))) (s_iconst dX12_fits_26 (s_istore dX12_fits_27 (by decide : 4 < 5) (sk_id))))))
set_option maxRecDepth 20000 in
def kX12_fits_29 (g : sk_G) (d ck sk : Nat) (Q : sk_P) : sk_K := o_iload 4 (o_i (4) (o_aload 0 (o_getf 12 23 (o_imul (o_icge (o_iinc 3 (1) (sk_B (g, d, ck, sk, xX12_fits, Q) 18)) (o_aload 0 (o_iload 3 (o_iload 4 (o_invB (g, d, ck, sk, xX12_fits, Q) xX12_isFit 2 12 0 0 (o_ifeq (o_iinc 4 (1) (sk_B (g, d, ck, sk, xX12_fits, Q) 29)) (o_iload 2 (o_iload 1 (o_icne (o_iinc 2 (1) (o_iinc 4 (1) (sk_B (g, d, ck, sk, xX12_fits, Q) 29))) (o_i (1000) (o_iload 3 (o_imul (o_iload 4 (o_iadd (o_iret (g, d, ck, sk, xX12_fits, Q))))))))))))))))))))
set_option maxRecDepth 20000 in
theorem tX12_fits_29 {g : sk_G} {d ck sk : Nat} {Q : sk_P} : sk_S (g, d, ck, sk, xX12_fits, Q) 29 (kX12_fits_29 g d ck sk Q) := s_iload dX12_fits_29 (s_iconst dX12_fits_31 (s_aload_n dX12_fits_32 rfl (s_getf (ci := 12) (j := 23) (C := RX12) (T := TX12) (N := 49) dX12_fits_33 rfl (by decide) (by decide) qf_X12_273 (s_imul dX12_fits_36 (s_icge (tgt := 73) dX12_fits_37 (by decide) (s_iinc dX12_fits_73 (by decide : 3 < 5) (s_goto (tgt := 18) dX12_fits_76 (by decide) (sk_id))) (s_aload_n dX12_fits_40 rfl (s_iload_n dX12_fits_41 rfl (s_iload dX12_fits_42 (s_invB (w' := (g, d, ck, sk, xX12_fits, Q)) (ci := 12) (ck := 0) (sk := 0) (T := TX12) (N := 49) dX12_fits_44 m_X12_isFit rfl (by decide) qm_X12_445 qi_X12_isFit qe_X12_isFit rfl (s_ifeq (tgt := 67) dX12_fits_47 (by decide) (s_iinc dX12_fits_67 (by decide : 4 < 5) (s_goto (tgt := 29) dX12_fits_70 (by decide) (sk_id))) (s_iload_n dX12_fits_50 rfl (s_iload_n dX12_fits_51 rfl (s_icne (tgt := 64) dX12_fits_52 (by decide) (s_iinc dX12_fits_64 (by decide : 2 < 5) (s_iinc dX12_fits_67 (by decide : 4 < 5) (s_goto (tgt := 29) dX12_fits_70 (by decide) (sk_id)))) (s_sipush dX12_fits_55 rfl (s_iload_n dX12_fits_58 rfl (s_imul dX12_fits_59 (s_iload dX12_fits_60 (s_iadd dX12_fits_62 (s_iret dX12_fits_63 rfl)))))))))))))))))))
theorem dX12_isFit_0 : decode cX12_isFit 0 = .ok (.aload_n 0, 1) := by decide +kernel
theorem dX12_isFit_1 : decode cX12_isFit 1 = .ok (.iload_n 1, 1) := by decide +kernel
theorem dX12_isFit_2 : decode cX12_isFit 2 = .ok (.iload_n 2, 1) := by decide +kernel
theorem dX12_isFit_3 : decode cX12_isFit 3 = .ok (.invokevirtual 408, 3) := by decide +kernel
theorem dX12_isFit_6 : decode cX12_isFit 6 = .ok (.ifCond .ne 5, 3) := by decide +kernel
theorem dX12_isFit_9 : decode cX12_isFit 9 = .ok (.iconst 0, 1) := by decide +kernel
theorem dX12_isFit_10 : decode cX12_isFit 10 = .ok (.ireturn, 1) := by decide +kernel
theorem dX12_isFit_11 : decode cX12_isFit 11 = .ok (.iconst 0, 1) := by decide +kernel
theorem dX12_isFit_12 : decode cX12_isFit 12 = .ok (.istore_n 3, 1) := by decide +kernel
theorem dX12_isFit_13 : decode cX12_isFit 13 = .ok (.iload_n 3, 1) := by decide +kernel
theorem dX12_isFit_14 : decode cX12_isFit 14 = .ok (.aload_n 0, 1) := by decide +kernel
theorem dX12_isFit_15 : decode cX12_isFit 15 = .ok (.getfield 276, 3) := by decide +kernel
theorem dX12_isFit_18 : decode cX12_isFit 18 = .ok (.if_icmp .ge 46, 3) := by decide +kernel
theorem dX12_isFit_21 : decode cX12_isFit 21 = .ok (.aload_n 0, 1) := by decide +kernel
theorem dX12_isFit_22 : decode cX12_isFit 22 = .ok (.iload_n 1, 1) := by decide +kernel
theorem dX12_isFit_23 : decode cX12_isFit 23 = .ok (.iload_n 2, 1) := by decide +kernel
theorem dX12_isFit_24 : decode cX12_isFit 24 = .ok (.aload_n 0, 1) := by decide +kernel
theorem dX12_isFit_25 : decode cX12_isFit 25 = .ok (.getfield 93, 3) := by decide +kernel
theorem dX12_isFit_28 : decode cX12_isFit 28 = .ok (.iload_n 3, 1) := by decide +kernel
theorem dX12_isFit_29 : decode cX12_isFit 29 = .ok (.iaload, 1) := by decide +kernel
theorem dX12_isFit_30 : decode cX12_isFit 30 = .ok (.invokevirtual 442, 3) := by decide +kernel
theorem dX12_isFit_33 : decode cX12_isFit 33 = .ok (.aload_n 0, 1) := by decide +kernel
theorem dX12_isFit_34 : decode cX12_isFit 34 = .ok (.getfield 96, 3) := by decide +kernel
theorem dX12_isFit_37 : decode cX12_isFit 37 = .ok (.iload_n 3, 1) := by decide +kernel
theorem dX12_isFit_38 : decode cX12_isFit 38 = .ok (.iaload, 1) := by decide +kernel
theorem dX12_isFit_39 : decode cX12_isFit 39 = .ok (.if_icmp .ne 7, 3) := by decide +kernel
theorem dX12_isFit_42 : decode cX12_isFit 42 = .ok (.iconst 1, 1) := by decide +kernel
theorem dX12_isFit_43 : decode cX12_isFit 43 = .ok (.goto 4, 3) := by decide +kernel
theorem dX12_isFit_46 : decode cX12_isFit 46 = .ok (.iconst 0, 1) := by decide +kernel
theorem dX12_isFit_47 : decode cX12_isFit 47 = .ok (.aload_n 0, 1) := by decide +kernel
theorem dX12_isFit_48 : decode cX12_isFit 48 = .ok (.getfield 99, 3) := by decide +kernel
theorem dX12_isFit_51 : decode cX12_isFit 51 = .ok (.iload_n 3, 1) := by decide +kernel
theorem dX12_isFit_52 : decode cX12_isFit 52 = .ok (.baload, 1) := by decide +kernel
theorem dX12_isFit_53 : decode cX12_isFit 53 = .ok (.if_icmp .eq 5, 3) := by decide +kernel
theorem dX12_isFit_56 : decode cX12_isFit 56 = .ok (.iconst 0, 1) := by decide +kernel
theorem dX12_isFit_57 : decode cX12_isFit 57 = .ok (.ireturn, 1) := by decide +kernel
theorem dX12_isFit_58 : decode cX12_isFit 58 = .ok (.iinc 3 1, 3) := by decide +kernel
theorem dX12_isFit_61 : decode cX12_isFit 61 = .ok (.goto (-48), 3) := by decide +kernel
theorem dX12_isFit_64 : decode cX12_isFit 64 = .ok (.iconst 1, 1) := by decide +kernel
theorem dX12_isFit_65 : decode cX12_isFit 65 = .ok (.ireturn, 1) := by decide +kernel
def kX12_isFit_0 (g : sk_G) (d ck sk : Nat) (Q : sk_P) : sk_K := o_aload 0 (o_iload 1 (o_iload 2 (o_invB (g, d, ck, sk, xX12_isFit, Q) xX12_isSpot 2 12 0 0 (o_ifne (o_i (0) (o_istore 3 (sk_B (g, d, ck, sk, xX12_isFit, Q) 13))) (o_i (0) (o_zret (g, d, ck, sk, xX12_isFit, Q)))))))
theorem tX12_isFit_0 {g : sk_G} {d ck sk : Nat} {Q : sk_P} : sk_S (g, d, ck, sk, xX12_isFit, Q) 0 (kX12_isFit_0 g d ck sk Q) := s_aload_n dX12_isFit_0 rfl (s_iload_n dX12_isFit_1 rfl (s_iload_n dX12_isFit_2 rfl (s_invB (w' := (g, d, ck, sk, xX12_isFit, Q)) (ci := 12) (ck := 0) (sk := 0) (T := TX12) (N := 49) dX12_isFit_3 m_X12_isSpot rfl (by decide) qm_X12_408 qi_X12_isSpot qe_X12_isSpot rfl (s_ifne (tgt := 11) dX12_isFit_6 (by decide) (s_iconst dX12_isFit_11 (s_istore_n dX12_isFit_12 rfl (by decide : 3 < 4) (sk_id))) (s_iconst dX12_isFit_9 (s_zret dX12_isFit_10 rfl))))))
set_option maxRecDepth 20000 in
def kX12_isFit_13 (g : sk_G) (d ck sk : Nat) (Q : sk_P) : sk_K := o_iload 3 (o_aload 0 (o_getf 12 45 (o_icge (o_i (1) (o_zret (g, d, ck, sk, xX12_isFit, Q))) (o_aload 0 (o_iload 1 (o_iload 2 (o_aload 0 (o_getf 12 42 (o_iload 3 (o_iaload (o_invB (g, d, ck, sk, xX12_isFit, Q) xX12_leftAt 3 12 0 0 (o_aload 0 (o_getf 12 43 (o_iload 3 (o_iaload (o_icne (o_i (0) (sk_B (g, d, ck, sk, xX12_isFit, Q) 47)) (o_i (1) (sk_B (g, d, ck, sk, xX12_isFit, Q) 47))))))))))))))))))
set_option maxRecDepth 20000 in
theorem tX12_isFit_13 {g : sk_G} {d ck sk : Nat} {Q : sk_P} : sk_S (g, d, ck, sk, xX12_isFit, Q) 13 (kX12_isFit_13 g d ck sk Q) := s_iload_n dX12_isFit_13 rfl (s_aload_n dX12_isFit_14 rfl (s_getf (ci := 12) (j := 45) (C := RX12) (T := TX12) (N := 49) dX12_isFit_15 rfl (by decide) (by decide) qf_X12_276 (s_icge (tgt := 64) dX12_isFit_18 (by decide) (s_iconst dX12_isFit_64 (s_zret dX12_isFit_65 rfl)) (s_aload_n dX12_isFit_21 rfl (s_iload_n dX12_isFit_22 rfl (s_iload_n dX12_isFit_23 rfl (s_aload_n dX12_isFit_24 rfl (s_getf (ci := 12) (j := 42) (C := RX12) (T := TX12) (N := 49) dX12_isFit_25 rfl (by decide) (by decide) qf_X12_93 (s_iload_n dX12_isFit_28 rfl (s_iaload dX12_isFit_29 (s_invB (w' := (g, d, ck, sk, xX12_isFit, Q)) (ci := 12) (ck := 0) (sk := 0) (T := TX12) (N := 49) dX12_isFit_30 m_X12_leftAt rfl (by decide) qm_X12_442 qi_X12_leftAt qe_X12_leftAt rfl (s_aload_n dX12_isFit_33 rfl (s_getf (ci := 12) (j := 43) (C := RX12) (T := TX12) (N := 49) dX12_isFit_34 rfl (by decide) (by decide) qf_X12_96 (s_iload_n dX12_isFit_37 rfl (s_iaload dX12_isFit_38 (s_icne (tgt := 46) dX12_isFit_39 (by decide) (s_iconst dX12_isFit_46 (sk_id)) (s_iconst dX12_isFit_42 (s_goto (tgt := 47) dX12_isFit_43 (by decide) (sk_id)))))))))))))))))))
def kX12_isFit_47 (g : sk_G) (d ck sk : Nat) (Q : sk_P) : sk_K := o_aload 0 (o_getf 12 44 (o_iload 3 (o_baload (o_iceq (o_iinc 3 (1) (sk_B (g, d, ck, sk, xX12_isFit, Q) 13)) (o_i (0) (o_zret (g, d, ck, sk, xX12_isFit, Q)))))))
theorem tX12_isFit_47 {g : sk_G} {d ck sk : Nat} {Q : sk_P} : sk_S (g, d, ck, sk, xX12_isFit, Q) 47 (kX12_isFit_47 g d ck sk Q) := s_aload_n dX12_isFit_47 rfl (s_getf (ci := 12) (j := 44) (C := RX12) (T := TX12) (N := 49) dX12_isFit_48 rfl (by decide) (by decide) qf_X12_99 (s_iload_n dX12_isFit_51 rfl (s_baload dX12_isFit_52 (s_iceq (tgt := 58) dX12_isFit_53 (by decide) (s_iinc dX12_isFit_58 (by decide : 3 < 4) (s_goto (tgt := 13) dX12_isFit_61 (by decide) (sk_id))) (s_iconst dX12_isFit_56 (s_zret dX12_isFit_57 rfl))))))
theorem dX12_leftAt_0 : decode cX12_leftAt 0 = .ok (.iconst 0, 1) := by decide +kernel
theorem dX12_leftAt_1 : decode cX12_leftAt 1 = .ok (.istore 4, 2) := by decide +kernel
theorem dX12_leftAt_3 : decode cX12_leftAt 3 = .ok (.iload 4, 2) := by decide +kernel
theorem dX12_leftAt_5 : decode cX12_leftAt 5 = .ok (.aload_n 0, 1) := by decide +kernel
theorem dX12_leftAt_6 : decode cX12_leftAt 6 = .ok (.getfield 55, 3) := by decide +kernel
theorem dX12_leftAt_9 : decode cX12_leftAt 9 = .ok (.iload_n 1, 1) := by decide +kernel
theorem dX12_leftAt_10 : decode cX12_leftAt 10 = .ok (.iaload, 1) := by decide +kernel
theorem dX12_leftAt_11 : decode cX12_leftAt 11 = .ok (.if_icmp .ge 34, 3) := by decide +kernel
theorem dX12_leftAt_14 : decode cX12_leftAt 14 = .ok (.aload_n 0, 1) := by decide +kernel
theorem dX12_leftAt_15 : decode cX12_leftAt 15 = .ok (.iload_n 1, 1) := by decide +kernel
theorem dX12_leftAt_16 : decode cX12_leftAt 16 = .ok (.iload 4, 2) := by decide +kernel
theorem dX12_leftAt_18 : decode cX12_leftAt 18 = .ok (.iload_n 2, 1) := by decide +kernel
theorem dX12_leftAt_19 : decode cX12_leftAt 19 = .ok (.iconst 4, 1) := by decide +kernel
theorem dX12_leftAt_20 : decode cX12_leftAt 20 = .ok (.idiv, 1) := by decide +kernel
theorem dX12_leftAt_21 : decode cX12_leftAt 21 = .ok (.iload_n 2, 1) := by decide +kernel
theorem dX12_leftAt_22 : decode cX12_leftAt 22 = .ok (.iconst 4, 1) := by decide +kernel
theorem dX12_leftAt_23 : decode cX12_leftAt 23 = .ok (.irem, 1) := by decide +kernel
theorem dX12_leftAt_24 : decode cX12_leftAt 24 = .ok (.invokevirtual 339, 3) := by decide +kernel
theorem dX12_leftAt_27 : decode cX12_leftAt 27 = .ok (.iload_n 3, 1) := by decide +kernel
theorem dX12_leftAt_28 : decode cX12_leftAt 28 = .ok (.if_icmp .ne 11, 3) := by decide +kernel
theorem dX12_leftAt_31 : decode cX12_leftAt 31 = .ok (.aload_n 0, 1) := by decide +kernel
theorem dX12_leftAt_32 : decode cX12_leftAt 32 = .ok (.iload_n 1, 1) := by decide +kernel
theorem dX12_leftAt_33 : decode cX12_leftAt 33 = .ok (.iload 4, 2) := by decide +kernel
theorem dX12_leftAt_35 : decode cX12_leftAt 35 = .ok (.invokevirtual 349, 3) := by decide +kernel
theorem dX12_leftAt_38 : decode cX12_leftAt 38 = .ok (.ireturn, 1) := by decide +kernel
theorem dX12_leftAt_39 : decode cX12_leftAt 39 = .ok (.iinc 4 1, 3) := by decide +kernel
theorem dX12_leftAt_42 : decode cX12_leftAt 42 = .ok (.goto (-39), 3) := by decide +kernel
theorem dX12_leftAt_45 : decode cX12_leftAt 45 = .ok (.bipush 26, 2) := by decide +kernel
theorem dX12_leftAt_47 : decode cX12_leftAt 47 = .ok (.ireturn, 1) := by decide +kernel
def kX12_leftAt_0 (g : sk_G) (d ck sk : Nat) (Q : sk_P) : sk_K := o_i (0) (o_istore 4 (sk_B (g, d, ck, sk, xX12_leftAt, Q) 3))
theorem tX12_leftAt_0 {g : sk_G} {d ck sk : Nat} {Q : sk_P} : sk_S (g, d, ck, sk, xX12_leftAt, Q) 0 (kX12_leftAt_0 g d ck sk Q) := s_iconst dX12_leftAt_0 (s_istore dX12_leftAt_1 (by decide : 4 < 5) (sk_id))
set_option maxRecDepth 20000 in
def kX12_leftAt_3 (g : sk_G) (d ck sk : Nat) (Q : sk_P) : sk_K := o_iload 4 (o_aload 0 (o_getf 12 25 (o_iload 1 (o_iaload (o_icge (o_i (26) (o_iret (g, d, ck, sk, xX12_leftAt, Q))) (o_aload 0 (o_iload 1 (o_iload 4 (o_iload 2 (o_i (4) (o_idiv (o_iload 2 (o_i (4) (o_irem (o_invB (g, d, ck, sk, xX12_leftAt, Q) xX12_cellOf 4 12 0 0 (o_iload 3 (o_icne (o_iinc 4 (1) (sk_B (g, d, ck, sk, xX12_leftAt, Q) 3)) (o_aload 0 (o_iload 1 (o_iload 4 (o_invT (g, d, ck, sk, xX12_leftAt, Q) 3 2 12 (fun Q => kX12_signOf_0 g (d - 1) 0 0 Q) (o_iret (g, d, ck, sk, xX12_leftAt, Q)))))))))))))))))))))))
set_option maxRecDepth 20000 in
theorem tX12_leftAt_3 {g : sk_G} {d ck sk : Nat} {Q : sk_P} : sk_S (g, d, ck, sk, xX12_leftAt, Q) 3 (kX12_leftAt_3 g d ck sk Q) := s_iload dX12_leftAt_3 (s_aload_n dX12_leftAt_5 rfl (s_getf (ci := 12) (j := 25) (C := RX12) (T := TX12) (N := 49) dX12_leftAt_6 rfl (by decide) (by decide) qf_X12_55 (s_iload_n dX12_leftAt_9 rfl (s_iaload dX12_leftAt_10 (s_icge (tgt := 45) dX12_leftAt_11 (by decide) (s_bipush dX12_leftAt_45 rfl (s_iret dX12_leftAt_47 rfl)) (s_aload_n dX12_leftAt_14 rfl (s_iload_n dX12_leftAt_15 rfl (s_iload dX12_leftAt_16 (s_iload_n dX12_leftAt_18 rfl (s_iconst dX12_leftAt_19 (s_idiv dX12_leftAt_20 (s_iload_n dX12_leftAt_21 rfl (s_iconst dX12_leftAt_22 (s_irem dX12_leftAt_23 (s_invB (w' := (g, d, ck, sk, xX12_leftAt, Q)) (ci := 12) (ck := 0) (sk := 0) (T := TX12) (N := 49) dX12_leftAt_24 m_X12_cellOf rfl (by decide) qm_X12_339 qi_X12_cellOf qe_X12_cellOf rfl (s_iload_n dX12_leftAt_27 rfl (s_icne (tgt := 39) dX12_leftAt_28 (by decide) (s_iinc dX12_leftAt_39 (by decide : 4 < 5) (s_goto (tgt := 3) dX12_leftAt_42 (by decide) (sk_id))) (s_aload_n dX12_leftAt_31 rfl (s_iload_n dX12_leftAt_32 rfl (s_iload dX12_leftAt_33 (s_invT (X := xX12_signOf) (ci := 12) (T := TX12) (N := 49) (K := (fun Q => kX12_signOf_0 g (d - 1) 0 0 Q)) (fun _ => tX12_signOf_0) rfl dX12_leftAt_35 m_X12_signOf rfl (by decide) qm_X12_349 qi_X12_signOf qe_X12_signOf (s_iret dX12_leftAt_38 rfl))))))))))))))))))))))
theorem dX12_ask_0 : decode cX12_ask 0 = .ok (.aload_n 0, 1) := by decide +kernel
theorem dX12_ask_1 : decode cX12_ask 1 = .ok (.getfield 273, 3) := by decide +kernel
theorem dX12_ask_4 : decode cX12_ask 4 = .ok (.ifCond .eq 12, 3) := by decide +kernel
theorem dX12_ask_7 : decode cX12_ask 7 = .ok (.aload_n 0, 1) := by decide +kernel
theorem dX12_ask_8 : decode cX12_ask 8 = .ok (.iconst 0, 1) := by decide +kernel
theorem dX12_ask_9 : decode cX12_ask 9 = .ok (.invokevirtual 448, 3) := by decide +kernel
theorem dX12_ask_12 : decode cX12_ask 12 = .ok (.iconst (-1), 1) := by decide +kernel
theorem dX12_ask_13 : decode cX12_ask 13 = .ok (.if_icmp .ne 5, 3) := by decide +kernel
theorem dX12_ask_16 : decode cX12_ask 16 = .ok (.iconst (-1), 1) := by decide +kernel
theorem dX12_ask_17 : decode cX12_ask 17 = .ok (.ireturn, 1) := by decide +kernel
theorem dX12_ask_18 : decode cX12_ask 18 = .ok (.iconst 0, 1) := by decide +kernel
theorem dX12_ask_19 : decode cX12_ask 19 = .ok (.istore_n 1, 1) := by decide +kernel
theorem dX12_ask_20 : decode cX12_ask 20 = .ok (.iload_n 1, 1) := by decide +kernel
theorem dX12_ask_21 : decode cX12_ask 21 = .ok (.sipush 1080, 3) := by decide +kernel
theorem dX12_ask_24 : decode cX12_ask 24 = .ok (.if_icmp .ge 16, 3) := by decide +kernel
theorem dX12_ask_27 : decode cX12_ask 27 = .ok (.aload_n 0, 1) := by decide +kernel
theorem dX12_ask_28 : decode cX12_ask 28 = .ok (.getfield 103, 3) := by decide +kernel
theorem dX12_ask_31 : decode cX12_ask 31 = .ok (.iload_n 1, 1) := by decide +kernel
theorem dX12_ask_32 : decode cX12_ask 32 = .ok (.iconst 0, 1) := by decide +kernel
theorem dX12_ask_33 : decode cX12_ask 33 = .ok (.iastore, 1) := by decide +kernel
theorem dX12_ask_34 : decode cX12_ask 34 = .ok (.iinc 1 1, 3) := by decide +kernel
theorem dX12_ask_37 : decode cX12_ask 37 = .ok (.goto (-17), 3) := by decide +kernel
theorem dX12_ask_40 : decode cX12_ask 40 = .ok (.iconst 0, 1) := by decide +kernel
theorem dX12_ask_41 : decode cX12_ask 41 = .ok (.istore_n 1, 1) := by decide +kernel
theorem dX12_ask_42 : decode cX12_ask 42 = .ok (.iload_n 1, 1) := by decide +kernel
theorem dX12_ask_43 : decode cX12_ask 43 = .ok (.aload_n 0, 1) := by decide +kernel
theorem dX12_ask_44 : decode cX12_ask 44 = .ok (.getfield 292, 3) := by decide +kernel
theorem dX12_ask_47 : decode cX12_ask 47 = .ok (.if_icmp .ge 73, 3) := by decide +kernel
theorem dX12_ask_50 : decode cX12_ask 50 = .ok (.iconst 0, 1) := by decide +kernel
theorem dX12_ask_51 : decode cX12_ask 51 = .ok (.istore_n 2, 1) := by decide +kernel
theorem dX12_ask_52 : decode cX12_ask 52 = .ok (.iload_n 2, 1) := by decide +kernel
theorem dX12_ask_53 : decode cX12_ask 53 = .ok (.iconst 4, 1) := by decide +kernel
theorem dX12_ask_54 : decode cX12_ask 54 = .ok (.aload_n 0, 1) := by decide +kernel
theorem dX12_ask_55 : decode cX12_ask 55 = .ok (.getfield 273, 3) := by decide +kernel
theorem dX12_ask_58 : decode cX12_ask 58 = .ok (.imul, 1) := by decide +kernel
theorem dX12_ask_59 : decode cX12_ask 59 = .ok (.if_icmp .ge 55, 3) := by decide +kernel
theorem dX12_ask_62 : decode cX12_ask 62 = .ok (.aload_n 0, 1) := by decide +kernel
theorem dX12_ask_63 : decode cX12_ask 63 = .ok (.iload_n 1, 1) := by decide +kernel
theorem dX12_ask_64 : decode cX12_ask 64 = .ok (.iload_n 2, 1) := by decide +kernel
theorem dX12_ask_65 : decode cX12_ask 65 = .ok (.invokevirtual 445, 3) := by decide +kernel
theorem dX12_ask_68 : decode cX12_ask 68 = .ok (.ifCond .eq 40, 3) := by decide +kernel
theorem dX12_ask_71 : decode cX12_ask 71 = .ok (.iconst 0, 1) := by decide +kernel
theorem dX12_ask_72 : decode cX12_ask 72 = .ok (.istore_n 3, 1) := by decide +kernel
theorem dX12_ask_73 : decode cX12_ask 73 = .ok (.iload_n 3, 1) := by decide +kernel
theorem dX12_ask_74 : decode cX12_ask 74 = .ok (.aload_n 0, 1) := by decide +kernel
theorem dX12_ask_75 : decode cX12_ask 75 = .ok (.getfield 273, 3) := by decide +kernel
theorem dX12_ask_78 : decode cX12_ask 78 = .ok (.if_icmp .ge 30, 3) := by decide +kernel
theorem dX12_ask_81 : decode cX12_ask 81 = .ok (.aload_n 0, 1) := by decide +kernel
theorem dX12_ask_82 : decode cX12_ask 82 = .ok (.getfield 103, 3) := by decide +kernel
theorem dX12_ask_85 : decode cX12_ask 85 = .ok (.bipush 27, 2) := by decide +kernel
theorem dX12_ask_87 : decode cX12_ask 87 = .ok (.iload_n 3, 1) := by decide +kernel
theorem dX12_ask_88 : decode cX12_ask 88 = .ok (.imul, 1) := by decide +kernel
theorem dX12_ask_89 : decode cX12_ask 89 = .ok (.aload_n 0, 1) := by decide +kernel
theorem dX12_ask_90 : decode cX12_ask 90 = .ok (.iload_n 1, 1) := by decide +kernel
theorem dX12_ask_91 : decode cX12_ask 91 = .ok (.iload_n 2, 1) := by decide +kernel
theorem dX12_ask_92 : decode cX12_ask 92 = .ok (.iload_n 3, 1) := by decide +kernel
theorem dX12_ask_93 : decode cX12_ask 93 = .ok (.invokevirtual 442, 3) := by decide +kernel
theorem dX12_ask_96 : decode cX12_ask 96 = .ok (.iadd, 1) := by decide +kernel
theorem dX12_ask_97 : decode cX12_ask 97 = .ok (.dup2, 1) := by decide +kernel
theorem dX12_ask_98 : decode cX12_ask 98 = .ok (.iaload, 1) := by decide +kernel
theorem dX12_ask_99 : decode cX12_ask 99 = .ok (.iconst 1, 1) := by decide +kernel
theorem dX12_ask_100 : decode cX12_ask 100 = .ok (.iadd, 1) := by decide +kernel
theorem dX12_ask_101 : decode cX12_ask 101 = .ok (.iastore, 1) := by decide +kernel
theorem dX12_ask_102 : decode cX12_ask 102 = .ok (.iinc 3 1, 3) := by decide +kernel
theorem dX12_ask_105 : decode cX12_ask 105 = .ok (.goto (-32), 3) := by decide +kernel
theorem dX12_ask_108 : decode cX12_ask 108 = .ok (.iinc 2 1, 3) := by decide +kernel
theorem dX12_ask_111 : decode cX12_ask 111 = .ok (.goto (-59), 3) := by decide +kernel
theorem dX12_ask_114 : decode cX12_ask 114 = .ok (.iinc 1 1, 3) := by decide +kernel
theorem dX12_ask_117 : decode cX12_ask 117 = .ok (.goto (-75), 3) := by decide +kernel
theorem dX12_ask_120 : decode cX12_ask 120 = .ok (.iconst (-1), 1) := by decide +kernel
theorem dX12_ask_121 : decode cX12_ask 121 = .ok (.istore_n 1, 1) := by decide +kernel
theorem dX12_ask_122 : decode cX12_ask 122 = .ok (.iconst 0, 1) := by decide +kernel
theorem dX12_ask_123 : decode cX12_ask 123 = .ok (.istore_n 2, 1) := by decide +kernel
theorem dX12_ask_124 : decode cX12_ask 124 = .ok (.iconst 0, 1) := by decide +kernel
theorem dX12_ask_125 : decode cX12_ask 125 = .ok (.istore_n 3, 1) := by decide +kernel
theorem dX12_ask_126 : decode cX12_ask 126 = .ok (.iload_n 3, 1) := by decide +kernel
theorem dX12_ask_127 : decode cX12_ask 127 = .ok (.aload_n 0, 1) := by decide +kernel
theorem dX12_ask_128 : decode cX12_ask 128 = .ok (.getfield 273, 3) := by decide +kernel
theorem dX12_ask_131 : decode cX12_ask 131 = .ok (.if_icmp .ge 63, 3) := by decide +kernel
theorem dX12_ask_134 : decode cX12_ask 134 = .ok (.iconst 0, 1) := by decide +kernel
theorem dX12_ask_135 : decode cX12_ask 135 = .ok (.istore 4, 2) := by decide +kernel
theorem dX12_ask_137 : decode cX12_ask 137 = .ok (.iconst 0, 1) := by decide +kernel
theorem dX12_ask_138 : decode cX12_ask 138 = .ok (.istore 5, 2) := by decide +kernel
theorem dX12_ask_140 : decode cX12_ask 140 = .ok (.iload 5, 2) := by decide +kernel
theorem dX12_ask_142 : decode cX12_ask 142 = .ok (.bipush 26, 2) := by decide +kernel
theorem dX12_ask_144 : decode cX12_ask 144 = .ok (.if_icmp .gt 28, 3) := by decide +kernel
theorem dX12_ask_147 : decode cX12_ask 147 = .ok (.iload 4, 2) := by decide +kernel
theorem dX12_ask_149 : decode cX12_ask 149 = .ok (.aload_n 0, 1) := by decide +kernel
theorem dX12_ask_150 : decode cX12_ask 150 = .ok (.getfield 103, 3) := by decide +kernel
theorem dX12_ask_153 : decode cX12_ask 153 = .ok (.bipush 27, 2) := by decide +kernel
theorem dX12_ask_155 : decode cX12_ask 155 = .ok (.iload_n 3, 1) := by decide +kernel
theorem dX12_ask_156 : decode cX12_ask 156 = .ok (.imul, 1) := by decide +kernel
theorem dX12_ask_157 : decode cX12_ask 157 = .ok (.iload 5, 2) := by decide +kernel
theorem dX12_ask_159 : decode cX12_ask 159 = .ok (.iadd, 1) := by decide +kernel
theorem dX12_ask_160 : decode cX12_ask 160 = .ok (.iaload, 1) := by decide +kernel
theorem dX12_ask_161 : decode cX12_ask 161 = .ok (.invokestatic 319, 3) := by decide +kernel
theorem dX12_ask_164 : decode cX12_ask 164 = .ok (.istore 4, 2) := by decide +kernel
theorem dX12_ask_166 : decode cX12_ask 166 = .ok (.iinc 5 1, 3) := by decide +kernel
theorem dX12_ask_169 : decode cX12_ask 169 = .ok (.goto (-29), 3) := by decide +kernel
theorem dX12_ask_172 : decode cX12_ask 172 = .ok (.iload_n 1, 1) := by decide +kernel
theorem dX12_ask_173 : decode cX12_ask 173 = .ok (.iconst (-1), 1) := by decide +kernel
theorem dX12_ask_174 : decode cX12_ask 174 = .ok (.if_icmp .eq 9, 3) := by decide +kernel
theorem dX12_ask_177 : decode cX12_ask 177 = .ok (.iload 4, 2) := by decide +kernel
theorem dX12_ask_179 : decode cX12_ask 179 = .ok (.iload_n 2, 1) := by decide +kernel
theorem dX12_ask_180 : decode cX12_ask 180 = .ok (.if_icmp .ge 8, 3) := by decide +kernel
theorem dX12_ask_183 : decode cX12_ask 183 = .ok (.iload_n 3, 1) := by decide +kernel
theorem dX12_ask_184 : decode cX12_ask 184 = .ok (.istore_n 1, 1) := by decide +kernel
theorem dX12_ask_185 : decode cX12_ask 185 = .ok (.iload 4, 2) := by decide +kernel
theorem dX12_ask_187 : decode cX12_ask 187 = .ok (.istore_n 2, 1) := by decide +kernel
theorem dX12_ask_188 : decode cX12_ask 188 = .ok (.iinc 3 1, 3) := by decide +kernel
theorem dX12_ask_191 : decode cX12_ask 191 = .ok (.goto (-65), 3) := by decide +kernel
theorem dX12_ask_194 : decode cX12_ask 194 = .ok (.iload_n 1, 1) := by decide +kernel
theorem dX12_ask_195 : decode cX12_ask 195 = .ok (.ireturn, 1) := by decide +kernel
def kX12_ask_0 (g : sk_G) (d ck sk : Nat) (Q : sk_P) : sk_K := o_aload 0 (o_getf 12 23 (o_ifeq (o_i (-1) (o_iret (g, d, ck, sk, xX12_ask, Q))) (o_aload 0 (o_i (0) (o_invB (g, d, ck, sk, xX12_ask, Q) xX12_fits 1 12 0 0 (o_i (-1) (o_icne (o_i (0) (o_istore 1 (sk_B (g, d, ck, sk, xX12_ask, Q) 20))) (o_i (-1) (o_iret (g, d, ck, sk, xX12_ask, Q))))))))))
theorem tX12_ask_0 {g : sk_G} {d ck sk : Nat} {Q : sk_P} : sk_S (g, d, ck, sk, xX12_ask, Q) 0 (kX12_ask_0 g d ck sk Q) := s_aload_n dX12_ask_0 rfl (s_getf (ci := 12) (j := 23) (C := RX12) (T := TX12) (N := 49) dX12_ask_1 rfl (by decide) (by decide) qf_X12_273 (s_ifeq (tgt := 16) dX12_ask_4 (by decide) (s_iconst dX12_ask_16 (s_iret dX12_ask_17 rfl)) (s_aload_n dX12_ask_7 rfl (s_iconst dX12_ask_8 (s_invB (w' := (g, d, ck, sk, xX12_ask, Q)) (ci := 12) (ck := 0) (sk := 0) (T := TX12) (N := 49) dX12_ask_9 m_X12_fits rfl (by decide) qm_X12_448 qi_X12_fits qe_X12_fits rfl (s_iconst dX12_ask_12 (s_icne (tgt := 18) dX12_ask_13 (by decide) (s_iconst dX12_ask_18 (s_istore_n dX12_ask_19 rfl (by decide : 1 < 6) (sk_id))) (s_iconst dX12_ask_16 (s_iret dX12_ask_17 rfl)))))))))
def kX12_ask_20 (g : sk_G) (d ck sk : Nat) (Q : sk_P) : sk_K := o_iload 1 (o_i (1080) (o_icge (o_i (0) (o_istore 1 (sk_B (g, d, ck, sk, xX12_ask, Q) 42))) (o_aload 0 (o_getf 12 46 (o_iload 1 (o_i (0) (o_iastore (o_iinc 1 (1) (sk_B (g, d, ck, sk, xX12_ask, Q) 20)))))))))
theorem tX12_ask_20 {g : sk_G} {d ck sk : Nat} {Q : sk_P} : sk_S (g, d, ck, sk, xX12_ask, Q) 20 (kX12_ask_20 g d ck sk Q) := s_iload_n dX12_ask_20 rfl (s_sipush dX12_ask_21 rfl (s_icge (tgt := 40) dX12_ask_24 (by decide) (s_iconst dX12_ask_40 (s_istore_n dX12_ask_41 rfl (by decide : 1 < 6) (sk_id))) (s_aload_n dX12_ask_27 rfl (s_getf (ci := 12) (j := 46) (C := RX12) (T := TX12) (N := 49) dX12_ask_28 rfl (by decide) (by decide) qf_X12_103 (s_iload_n dX12_ask_31 rfl (s_iconst dX12_ask_32 (s_iastore dX12_ask_33 (s_iinc dX12_ask_34 (by decide : 1 < 6) (s_goto (tgt := 20) dX12_ask_37 (by decide) (sk_id))))))))))
def kX12_ask_42 (g : sk_G) (d ck sk : Nat) (Q : sk_P) : sk_K := o_iload 1 (o_aload 0 (o_getf 12 27 (o_icge (o_i (-1) (o_istore 1 (o_i (0) (o_istore 2 (o_i (0) (o_istore 3 (sk_B (g, d, ck, sk, xX12_ask, Q) 126))))))) (o_i (0) (o_istore 2 (sk_B (g, d, ck, sk, xX12_ask, Q) 52))))))
theorem tX12_ask_42 {g : sk_G} {d ck sk : Nat} {Q : sk_P} : sk_S (g, d, ck, sk, xX12_ask, Q) 42 (kX12_ask_42 g d ck sk Q) := s_iload_n dX12_ask_42 rfl (s_aload_n dX12_ask_43 rfl (s_getf (ci := 12) (j := 27) (C := RX12) (T := TX12) (N := 49) dX12_ask_44 rfl (by decide) (by decide) qf_X12_292 (s_icge (tgt := 120) dX12_ask_47 (by decide) (s_iconst dX12_ask_120 (s_istore_n dX12_ask_121 rfl (by decide : 1 < 6) (s_iconst dX12_ask_122 (s_istore_n dX12_ask_123 rfl (by decide : 2 < 6) (s_iconst dX12_ask_124 (s_istore_n dX12_ask_125 rfl (by decide : 3 < 6) (sk_id))))))) (s_iconst dX12_ask_50 (s_istore_n dX12_ask_51 rfl (by decide : 2 < 6) (sk_id))))))
set_option maxRecDepth 20000 in
def kX12_ask_52 (g : sk_G) (d ck sk : Nat) (Q : sk_P) : sk_K := o_iload 2 (o_i (4) (o_aload 0 (o_getf 12 23 (o_imul (o_icge (o_iinc 1 (1) (sk_B (g, d, ck, sk, xX12_ask, Q) 42)) (o_aload 0 (o_iload 1 (o_iload 2 (o_invB (g, d, ck, sk, xX12_ask, Q) xX12_isFit 2 12 0 0 (o_ifeq (o_iinc 2 (1) (sk_B (g, d, ck, sk, xX12_ask, Q) 52)) (o_i (0) (o_istore 3 (sk_B (g, d, ck, sk, xX12_ask, Q) 73)))))))))))))
set_option maxRecDepth 20000 in
theorem tX12_ask_52 {g : sk_G} {d ck sk : Nat} {Q : sk_P} : sk_S (g, d, ck, sk, xX12_ask, Q) 52 (kX12_ask_52 g d ck sk Q) := s_iload_n dX12_ask_52 rfl (s_iconst dX12_ask_53 (s_aload_n dX12_ask_54 rfl (s_getf (ci := 12) (j := 23) (C := RX12) (T := TX12) (N := 49) dX12_ask_55 rfl (by decide) (by decide) qf_X12_273 (s_imul dX12_ask_58 (s_icge (tgt := 114) dX12_ask_59 (by decide) (s_iinc dX12_ask_114 (by decide : 1 < 6) (s_goto (tgt := 42) dX12_ask_117 (by decide) (sk_id))) (s_aload_n dX12_ask_62 rfl (s_iload_n dX12_ask_63 rfl (s_iload_n dX12_ask_64 rfl (s_invB (w' := (g, d, ck, sk, xX12_ask, Q)) (ci := 12) (ck := 0) (sk := 0) (T := TX12) (N := 49) dX12_ask_65 m_X12_isFit rfl (by decide) qm_X12_445 qi_X12_isFit qe_X12_isFit rfl (s_ifeq (tgt := 108) dX12_ask_68 (by decide) (s_iinc dX12_ask_108 (by decide : 2 < 6) (s_goto (tgt := 52) dX12_ask_111 (by decide) (sk_id))) (s_iconst dX12_ask_71 (s_istore_n dX12_ask_72 rfl (by decide : 3 < 6) (sk_id)))))))))))))
set_option maxRecDepth 20000 in
def kX12_ask_73 (g : sk_G) (d ck sk : Nat) (Q : sk_P) : sk_K := o_iload 3 (o_aload 0 (o_getf 12 23 (o_icge (o_iinc 2 (1) (sk_B (g, d, ck, sk, xX12_ask, Q) 52)) (o_aload 0 (o_getf 12 46 (o_i (27) (o_iload 3 (o_imul (o_aload 0 (o_iload 1 (o_iload 2 (o_iload 3 (o_invB (g, d, ck, sk, xX12_ask, Q) xX12_leftAt 3 12 0 0 (o_iadd (o_dup2 (o_iaload (o_i (1) (o_iadd (o_iastore (o_iinc 3 (1) (sk_B (g, d, ck, sk, xX12_ask, Q) 73)))))))))))))))))))))
set_option maxRecDepth 20000 in
theorem tX12_ask_73 {g : sk_G} {d ck sk : Nat} {Q : sk_P} : sk_S (g, d, ck, sk, xX12_ask, Q) 73 (kX12_ask_73 g d ck sk Q) := s_iload_n dX12_ask_73 rfl (s_aload_n dX12_ask_74 rfl (s_getf (ci := 12) (j := 23) (C := RX12) (T := TX12) (N := 49) dX12_ask_75 rfl (by decide) (by decide) qf_X12_273 (s_icge (tgt := 108) dX12_ask_78 (by decide) (s_iinc dX12_ask_108 (by decide : 2 < 6) (s_goto (tgt := 52) dX12_ask_111 (by decide) (sk_id))) (s_aload_n dX12_ask_81 rfl (s_getf (ci := 12) (j := 46) (C := RX12) (T := TX12) (N := 49) dX12_ask_82 rfl (by decide) (by decide) qf_X12_103 (s_bipush dX12_ask_85 rfl (s_iload_n dX12_ask_87 rfl (s_imul dX12_ask_88 (s_aload_n dX12_ask_89 rfl (s_iload_n dX12_ask_90 rfl (s_iload_n dX12_ask_91 rfl (s_iload_n dX12_ask_92 rfl (s_invB (w' := (g, d, ck, sk, xX12_ask, Q)) (ci := 12) (ck := 0) (sk := 0) (T := TX12) (N := 49) dX12_ask_93 m_X12_leftAt rfl (by decide) qm_X12_442 qi_X12_leftAt qe_X12_leftAt rfl (s_iadd dX12_ask_96 (s_dup2 dX12_ask_97 (s_iaload dX12_ask_98 (s_iconst dX12_ask_99 (s_iadd dX12_ask_100 (s_iastore dX12_ask_101 (s_iinc dX12_ask_102 (by decide : 3 < 6) (s_goto (tgt := 73) dX12_ask_105 (by decide) (sk_id))))))))))))))))))))))
def kX12_ask_126 (g : sk_G) (d ck sk : Nat) (Q : sk_P) : sk_K := o_iload 3 (o_aload 0 (o_getf 12 23 (o_icge (o_iload 1 (o_iret (g, d, ck, sk, xX12_ask, Q))) (o_i (0) (o_istore 4 (o_i (0) (o_istore 5 (sk_B (g, d, ck, sk, xX12_ask, Q) 140))))))))
theorem tX12_ask_126 {g : sk_G} {d ck sk : Nat} {Q : sk_P} : sk_S (g, d, ck, sk, xX12_ask, Q) 126 (kX12_ask_126 g d ck sk Q) := s_iload_n dX12_ask_126 rfl (s_aload_n dX12_ask_127 rfl (s_getf (ci := 12) (j := 23) (C := RX12) (T := TX12) (N := 49) dX12_ask_128 rfl (by decide) (by decide) qf_X12_273 (s_icge (tgt := 194) dX12_ask_131 (by decide) (s_iload_n dX12_ask_194 rfl (s_iret dX12_ask_195 rfl)) (s_iconst dX12_ask_134 (s_istore dX12_ask_135 (by decide : 4 < 6) (s_iconst dX12_ask_137 (s_istore dX12_ask_138 (by decide : 5 < 6) (sk_id))))))))
set_option maxRecDepth 20000 in
def kX12_ask_140 (g : sk_G) (d ck sk : Nat) (Q : sk_P) : sk_K := o_iload 5 (o_i (26) (o_icgt (o_iload 1 (o_i (-1) (o_iceq (o_iload 3 (o_istore 1 (o_iload 4 (o_istore 2 (o_iinc 3 (1) (sk_B (g, d, ck, sk, xX12_ask, Q) 126)))))) (o_iload 4 (o_iload 2 (o_icge (o_iinc 3 (1) (sk_B (g, d, ck, sk, xX12_ask, Q) 126)) (o_iload 3 (o_istore 1 (o_iload 4 (o_istore 2 (o_iinc 3 (1) (sk_B (g, d, ck, sk, xX12_ask, Q) 126)))))))))))) (o_iload 4 (o_aload 0 (o_getf 12 46 (o_i (27) (o_iload 3 (o_imul (o_iload 5 (o_iadd (o_iaload (o_max (g, d, ck, sk, xX12_ask, Q) (o_istore 4 (o_iinc 5 (1) (sk_B (g, d, ck, sk, xX12_ask, Q) 140)))))))))))))))
set_option maxRecDepth 20000 in
theorem tX12_ask_140 {g : sk_G} {d ck sk : Nat} {Q : sk_P} : sk_S (g, d, ck, sk, xX12_ask, Q) 140 (kX12_ask_140 g d ck sk Q) := s_iload dX12_ask_140 (s_bipush dX12_ask_142 rfl (s_icgt (tgt := 172) dX12_ask_144 (by decide) (s_iload_n dX12_ask_172 rfl (s_iconst dX12_ask_173 (s_iceq (tgt := 183) dX12_ask_174 (by decide) (s_iload_n dX12_ask_183 rfl (s_istore_n dX12_ask_184 rfl (by decide : 1 < 6) (s_iload dX12_ask_185 (s_istore_n dX12_ask_187 rfl (by decide : 2 < 6) (s_iinc dX12_ask_188 (by decide : 3 < 6) (s_goto (tgt := 126) dX12_ask_191 (by decide) (sk_id))))))) (s_iload dX12_ask_177 (s_iload_n dX12_ask_179 rfl (s_icge (tgt := 188) dX12_ask_180 (by decide) (s_iinc dX12_ask_188 (by decide : 3 < 6) (s_goto (tgt := 126) dX12_ask_191 (by decide) (sk_id))) (s_iload_n dX12_ask_183 rfl (s_istore_n dX12_ask_184 rfl (by decide : 1 < 6) (s_iload dX12_ask_185 (s_istore_n dX12_ask_187 rfl (by decide : 2 < 6) (s_iinc dX12_ask_188 (by decide : 3 < 6) (s_goto (tgt := 126) dX12_ask_191 (by decide) (sk_id))))))))))))) (s_iload dX12_ask_147 (s_aload_n dX12_ask_149 rfl (s_getf (ci := 12) (j := 46) (C := RX12) (T := TX12) (N := 49) dX12_ask_150 rfl (by decide) (by decide) qf_X12_103 (s_bipush dX12_ask_153 rfl (s_iload_n dX12_ask_155 rfl (s_imul dX12_ask_156 (s_iload dX12_ask_157 (s_iadd dX12_ask_159 (s_iaload dX12_ask_160 (s_max dX12_ask_161 qm_X12_319 qs_Mmax qz_J9 qc_Mmax (s_istore dX12_ask_164 (by decide : 4 < 6) (s_iinc dX12_ask_166 (by decide : 5 < 6) (s_goto (tgt := 140) dX12_ask_169 (by decide) (sk_id))))))))))))))))
theorem dX12_meets_0 : decode cX12_meets 0 = .ok (.iload_n 1, 1) := by decide +kernel
theorem dX12_meets_1 : decode cX12_meets 1 = .ok (.iconst 0, 1) := by decide +kernel
theorem dX12_meets_2 : decode cX12_meets 2 = .ok (.aload_n 0, 1) := by decide +kernel
theorem dX12_meets_3 : decode cX12_meets 3 = .ok (.getfield 292, 3) := by decide +kernel
theorem dX12_meets_6 : decode cX12_meets 6 = .ok (.iconst 1, 1) := by decide +kernel
theorem dX12_meets_7 : decode cX12_meets 7 = .ok (.isub, 1) := by decide +kernel
theorem dX12_meets_8 : decode cX12_meets 8 = .ok (.invokestatic 224, 3) := by decide +kernel
theorem dX12_meets_11 : decode cX12_meets 11 = .ok (.ifCond .eq 26, 3) := by decide +kernel
theorem dX12_meets_14 : decode cX12_meets 14 = .ok (.iload_n 2, 1) := by decide +kernel
theorem dX12_meets_15 : decode cX12_meets 15 = .ok (.iconst 0, 1) := by decide +kernel
theorem dX12_meets_16 : decode cX12_meets 16 = .ok (.aload_n 0, 1) := by decide +kernel
theorem dX12_meets_17 : decode cX12_meets 17 = .ok (.getfield 292, 3) := by decide +kernel
theorem dX12_meets_20 : decode cX12_meets 20 = .ok (.iconst 1, 1) := by decide +kernel
theorem dX12_meets_21 : decode cX12_meets 21 = .ok (.isub, 1) := by decide +kernel
theorem dX12_meets_22 : decode cX12_meets 22 = .ok (.invokestatic 224, 3) := by decide +kernel
theorem dX12_meets_25 : decode cX12_meets 25 = .ok (.ifCond .eq 12, 3) := by decide +kernel
theorem dX12_meets_28 : decode cX12_meets 28 = .ok (.aload_n 0, 1) := by decide +kernel
theorem dX12_meets_29 : decode cX12_meets 29 = .ok (.iload_n 1, 1) := by decide +kernel
theorem dX12_meets_30 : decode cX12_meets 30 = .ok (.iload_n 2, 1) := by decide +kernel
theorem dX12_meets_31 : decode cX12_meets 31 = .ok (.invokevirtual 454, 3) := by decide +kernel
theorem dX12_meets_34 : decode cX12_meets 34 = .ok (.goto 4, 3) := by decide +kernel
theorem dX12_meets_37 : decode cX12_meets 37 = .ok (.iconst (-1), 1) := by decide +kernel
theorem dX12_meets_38 : decode cX12_meets 38 = .ok (.ireturn, 1) := by decide +kernel
set_option maxRecDepth 20000 in
def kX12_meets_0 (g : sk_G) (d ck sk : Nat) (Q : sk_P) : sk_K := o_iload 1 (o_i (0) (o_aload 0 (o_getf 12 27 (o_i (1) (o_isub (o_stcT (g, d, ck, sk, xX12_meets, Q) 3 3 (fun Q => kX12_in_0 g (d - 1) 0 0 Q) (o_ifeq (o_i (-1) (o_iret (g, d, ck, sk, xX12_meets, Q))) (o_iload 2 (o_i (0) (o_aload 0 (o_getf 12 27 (o_i (1) (o_isub (o_stcT (g, d, ck, sk, xX12_meets, Q) 3 3 (fun Q => kX12_in_0 g (d - 1) 0 0 Q) (o_ifeq (o_i (-1) (o_iret (g, d, ck, sk, xX12_meets, Q))) (o_aload 0 (o_iload 1 (o_iload 2 (o_invB (g, d, ck, sk, xX12_meets, Q) xX12_meetsOf 2 12 0 0 (o_iret (g, d, ck, sk, xX12_meets, Q)))))))))))))))))))))
set_option maxRecDepth 20000 in
theorem tX12_meets_0 {g : sk_G} {d ck sk : Nat} {Q : sk_P} : sk_S (g, d, ck, sk, xX12_meets, Q) 0 (kX12_meets_0 g d ck sk Q) := s_iload_n dX12_meets_0 rfl (s_iconst dX12_meets_1 (s_aload_n dX12_meets_2 rfl (s_getf (ci := 12) (j := 27) (C := RX12) (T := TX12) (N := 49) dX12_meets_3 rfl (by decide) (by decide) qf_X12_292 (s_iconst dX12_meets_6 (s_isub dX12_meets_7 (s_stcT (X := xX12_in) (K := (fun Q => kX12_in_0 g (d - 1) 0 0 Q)) (fun _ => tX12_in_0) rfl dX12_meets_8 m_X12_in qm_X12_224 qs_X12_in (s_ifeq (tgt := 37) dX12_meets_11 (by decide) (s_iconst dX12_meets_37 (s_iret dX12_meets_38 rfl)) (s_iload_n dX12_meets_14 rfl (s_iconst dX12_meets_15 (s_aload_n dX12_meets_16 rfl (s_getf (ci := 12) (j := 27) (C := RX12) (T := TX12) (N := 49) dX12_meets_17 rfl (by decide) (by decide) qf_X12_292 (s_iconst dX12_meets_20 (s_isub dX12_meets_21 (s_stcT (X := xX12_in) (K := (fun Q => kX12_in_0 g (d - 1) 0 0 Q)) (fun _ => tX12_in_0) rfl dX12_meets_22 m_X12_in qm_X12_224 qs_X12_in (s_ifeq (tgt := 37) dX12_meets_25 (by decide) (s_iconst dX12_meets_37 (s_iret dX12_meets_38 rfl)) (s_aload_n dX12_meets_28 rfl (s_iload_n dX12_meets_29 rfl (s_iload_n dX12_meets_30 rfl (s_invB (w' := (g, d, ck, sk, xX12_meets, Q)) (ci := 12) (ck := 0) (sk := 0) (T := TX12) (N := 49) dX12_meets_31 m_X12_meetsOf rfl (by decide) qm_X12_454 qi_X12_meetsOf qe_X12_meetsOf rfl (s_goto (tgt := 38) dX12_meets_34 (by decide) (s_iret dX12_meets_38 rfl)))))))))))))))))))))
theorem dX12_meetsOf_0 : decode cX12_meetsOf 0 = .ok (.aload_n 0, 1) := by decide +kernel
theorem dX12_meetsOf_1 : decode cX12_meetsOf 1 = .ok (.getfield 58, 3) := by decide +kernel
theorem dX12_meetsOf_4 : decode cX12_meetsOf 4 = .ok (.iconst 4, 1) := by decide +kernel
theorem dX12_meetsOf_5 : decode cX12_meetsOf 5 = .ok (.iload_n 1, 1) := by decide +kernel
theorem dX12_meetsOf_6 : decode cX12_meetsOf 6 = .ok (.imul, 1) := by decide +kernel
theorem dX12_meetsOf_7 : decode cX12_meetsOf 7 = .ok (.iaload, 1) := by decide +kernel
theorem dX12_meetsOf_8 : decode cX12_meetsOf 8 = .ok (.aload_n 0, 1) := by decide +kernel
theorem dX12_meetsOf_9 : decode cX12_meetsOf 9 = .ok (.getfield 58, 3) := by decide +kernel
theorem dX12_meetsOf_12 : decode cX12_meetsOf 12 = .ok (.iconst 4, 1) := by decide +kernel
theorem dX12_meetsOf_13 : decode cX12_meetsOf 13 = .ok (.iload_n 2, 1) := by decide +kernel
theorem dX12_meetsOf_14 : decode cX12_meetsOf 14 = .ok (.imul, 1) := by decide +kernel
theorem dX12_meetsOf_15 : decode cX12_meetsOf 15 = .ok (.iaload, 1) := by decide +kernel
theorem dX12_meetsOf_16 : decode cX12_meetsOf 16 = .ok (.invokestatic 317, 3) := by decide +kernel
theorem dX12_meetsOf_19 : decode cX12_meetsOf 19 = .ok (.istore_n 3, 1) := by decide +kernel
theorem dX12_meetsOf_20 : decode cX12_meetsOf 20 = .ok (.aload_n 0, 1) := by decide +kernel
theorem dX12_meetsOf_21 : decode cX12_meetsOf 21 = .ok (.iload_n 1, 1) := by decide +kernel
theorem dX12_meetsOf_22 : decode cX12_meetsOf 22 = .ok (.iload_n 2, 1) := by decide +kernel
theorem dX12_meetsOf_23 : decode cX12_meetsOf 23 = .ok (.iload_n 3, 1) := by decide +kernel
theorem dX12_meetsOf_24 : decode cX12_meetsOf 24 = .ok (.invokevirtual 451, 3) := by decide +kernel
theorem dX12_meetsOf_27 : decode cX12_meetsOf 27 = .ok (.ifCond .ne 9, 3) := by decide +kernel
theorem dX12_meetsOf_30 : decode cX12_meetsOf 30 = .ok (.iinc 3 (-1), 3) := by decide +kernel
theorem dX12_meetsOf_33 : decode cX12_meetsOf 33 = .ok (.goto (-13), 3) := by decide +kernel
theorem dX12_meetsOf_36 : decode cX12_meetsOf 36 = .ok (.iload_n 3, 1) := by decide +kernel
theorem dX12_meetsOf_37 : decode cX12_meetsOf 37 = .ok (.ireturn, 1) := by decide +kernel
def kX12_meetsOf_0 (g : sk_G) (d ck sk : Nat) (Q : sk_P) : sk_K := o_aload 0 (o_getf 12 26 (o_i (4) (o_iload 1 (o_imul (o_iaload (o_aload 0 (o_getf 12 26 (o_i (4) (o_iload 2 (o_imul (o_iaload (o_min (g, d, ck, sk, xX12_meetsOf, Q) (o_istore 3 (sk_B (g, d, ck, sk, xX12_meetsOf, Q) 20))))))))))))))
theorem tX12_meetsOf_0 {g : sk_G} {d ck sk : Nat} {Q : sk_P} : sk_S (g, d, ck, sk, xX12_meetsOf, Q) 0 (kX12_meetsOf_0 g d ck sk Q) := s_aload_n dX12_meetsOf_0 rfl (s_getf (ci := 12) (j := 26) (C := RX12) (T := TX12) (N := 49) dX12_meetsOf_1 rfl (by decide) (by decide) qf_X12_58 (s_iconst dX12_meetsOf_4 (s_iload_n dX12_meetsOf_5 rfl (s_imul dX12_meetsOf_6 (s_iaload dX12_meetsOf_7 (s_aload_n dX12_meetsOf_8 rfl (s_getf (ci := 12) (j := 26) (C := RX12) (T := TX12) (N := 49) dX12_meetsOf_9 rfl (by decide) (by decide) qf_X12_58 (s_iconst dX12_meetsOf_12 (s_iload_n dX12_meetsOf_13 rfl (s_imul dX12_meetsOf_14 (s_iaload dX12_meetsOf_15 (s_min dX12_meetsOf_16 qm_X12_317 qs_Mmin qz_J9 qc_Mmin (s_istore_n dX12_meetsOf_19 rfl (by decide : 3 < 4) (sk_id))))))))))))))
def kX12_meetsOf_20 (g : sk_G) (d ck sk : Nat) (Q : sk_P) : sk_K := o_aload 0 (o_iload 1 (o_iload 2 (o_iload 3 (o_invB (g, d, ck, sk, xX12_meetsOf, Q) xX12_doMeet 3 12 0 0 (o_ifne (o_iload 3 (o_iret (g, d, ck, sk, xX12_meetsOf, Q))) (o_iinc 3 (-1) (sk_B (g, d, ck, sk, xX12_meetsOf, Q) 20)))))))
theorem tX12_meetsOf_20 {g : sk_G} {d ck sk : Nat} {Q : sk_P} : sk_S (g, d, ck, sk, xX12_meetsOf, Q) 20 (kX12_meetsOf_20 g d ck sk Q) := s_aload_n dX12_meetsOf_20 rfl (s_iload_n dX12_meetsOf_21 rfl (s_iload_n dX12_meetsOf_22 rfl (s_iload_n dX12_meetsOf_23 rfl (s_invB (w' := (g, d, ck, sk, xX12_meetsOf, Q)) (ci := 12) (ck := 0) (sk := 0) (T := TX12) (N := 49) dX12_meetsOf_24 m_X12_doMeet rfl (by decide) qm_X12_451 qi_X12_doMeet qe_X12_doMeet rfl (s_ifne (tgt := 36) dX12_meetsOf_27 (by decide) (s_iload_n dX12_meetsOf_36 rfl (s_iret dX12_meetsOf_37 rfl)) (s_iinc dX12_meetsOf_30 (by decide : 3 < 4) (s_goto (tgt := 20) dX12_meetsOf_33 (by decide) (sk_id))))))))
theorem dX12_doMeet_0 : decode cX12_doMeet 0 = .ok (.aload_n 0, 1) := by decide +kernel
theorem dX12_doMeet_1 : decode cX12_doMeet 1 = .ok (.getfield 58, 3) := by decide +kernel
theorem dX12_doMeet_4 : decode cX12_doMeet 4 = .ok (.iconst 4, 1) := by decide +kernel
theorem dX12_doMeet_5 : decode cX12_doMeet 5 = .ok (.iload_n 1, 1) := by decide +kernel
theorem dX12_doMeet_6 : decode cX12_doMeet 6 = .ok (.imul, 1) := by decide +kernel
theorem dX12_doMeet_7 : decode cX12_doMeet 7 = .ok (.iaload, 1) := by decide +kernel
theorem dX12_doMeet_8 : decode cX12_doMeet 8 = .ok (.iload_n 3, 1) := by decide +kernel
theorem dX12_doMeet_9 : decode cX12_doMeet 9 = .ok (.isub, 1) := by decide +kernel
theorem dX12_doMeet_10 : decode cX12_doMeet 10 = .ok (.istore 4, 2) := by decide +kernel
theorem dX12_doMeet_12 : decode cX12_doMeet 12 = .ok (.iconst 0, 1) := by decide +kernel
theorem dX12_doMeet_13 : decode cX12_doMeet 13 = .ok (.istore 5, 2) := by decide +kernel
theorem dX12_doMeet_15 : decode cX12_doMeet 15 = .ok (.iload 5, 2) := by decide +kernel
theorem dX12_doMeet_17 : decode cX12_doMeet 17 = .ok (.iload_n 3, 1) := by decide +kernel
theorem dX12_doMeet_18 : decode cX12_doMeet 18 = .ok (.if_icmp .ge 31, 3) := by decide +kernel
theorem dX12_doMeet_21 : decode cX12_doMeet 21 = .ok (.aload_n 0, 1) := by decide +kernel
theorem dX12_doMeet_22 : decode cX12_doMeet 22 = .ok (.iload_n 1, 1) := by decide +kernel
theorem dX12_doMeet_23 : decode cX12_doMeet 23 = .ok (.iload 4, 2) := by decide +kernel
theorem dX12_doMeet_25 : decode cX12_doMeet 25 = .ok (.iload 5, 2) := by decide +kernel
theorem dX12_doMeet_27 : decode cX12_doMeet 27 = .ok (.iadd, 1) := by decide +kernel
theorem dX12_doMeet_28 : decode cX12_doMeet 28 = .ok (.invokevirtual 349, 3) := by decide +kernel
theorem dX12_doMeet_31 : decode cX12_doMeet 31 = .ok (.aload_n 0, 1) := by decide +kernel
theorem dX12_doMeet_32 : decode cX12_doMeet 32 = .ok (.iload_n 2, 1) := by decide +kernel
theorem dX12_doMeet_33 : decode cX12_doMeet 33 = .ok (.iload 5, 2) := by decide +kernel
theorem dX12_doMeet_35 : decode cX12_doMeet 35 = .ok (.invokevirtual 349, 3) := by decide +kernel
theorem dX12_doMeet_38 : decode cX12_doMeet 38 = .ok (.if_icmp .eq 5, 3) := by decide +kernel
theorem dX12_doMeet_41 : decode cX12_doMeet 41 = .ok (.iconst 0, 1) := by decide +kernel
theorem dX12_doMeet_42 : decode cX12_doMeet 42 = .ok (.ireturn, 1) := by decide +kernel
theorem dX12_doMeet_43 : decode cX12_doMeet 43 = .ok (.iinc 5 1, 3) := by decide +kernel
theorem dX12_doMeet_46 : decode cX12_doMeet 46 = .ok (.goto (-31), 3) := by decide +kernel
theorem dX12_doMeet_49 : decode cX12_doMeet 49 = .ok (.iconst 1, 1) := by decide +kernel
theorem dX12_doMeet_50 : decode cX12_doMeet 50 = .ok (.ireturn, 1) := by decide +kernel
def kX12_doMeet_0 (g : sk_G) (d ck sk : Nat) (Q : sk_P) : sk_K := o_aload 0 (o_getf 12 26 (o_i (4) (o_iload 1 (o_imul (o_iaload (o_iload 3 (o_isub (o_istore 4 (o_i (0) (o_istore 5 (sk_B (g, d, ck, sk, xX12_doMeet, Q) 15)))))))))))
theorem tX12_doMeet_0 {g : sk_G} {d ck sk : Nat} {Q : sk_P} : sk_S (g, d, ck, sk, xX12_doMeet, Q) 0 (kX12_doMeet_0 g d ck sk Q) := s_aload_n dX12_doMeet_0 rfl (s_getf (ci := 12) (j := 26) (C := RX12) (T := TX12) (N := 49) dX12_doMeet_1 rfl (by decide) (by decide) qf_X12_58 (s_iconst dX12_doMeet_4 (s_iload_n dX12_doMeet_5 rfl (s_imul dX12_doMeet_6 (s_iaload dX12_doMeet_7 (s_iload_n dX12_doMeet_8 rfl (s_isub dX12_doMeet_9 (s_istore dX12_doMeet_10 (by decide : 4 < 6) (s_iconst dX12_doMeet_12 (s_istore dX12_doMeet_13 (by decide : 5 < 6) (sk_id)))))))))))
set_option maxRecDepth 20000 in
def kX12_doMeet_15 (g : sk_G) (d ck sk : Nat) (Q : sk_P) : sk_K := o_iload 5 (o_iload 3 (o_icge (o_i (1) (o_zret (g, d, ck, sk, xX12_doMeet, Q))) (o_aload 0 (o_iload 1 (o_iload 4 (o_iload 5 (o_iadd (o_invT (g, d, ck, sk, xX12_doMeet, Q) 3 2 12 (fun Q => kX12_signOf_0 g (d - 1) 0 0 Q) (o_aload 0 (o_iload 2 (o_iload 5 (o_invT (g, d, ck, sk, xX12_doMeet, Q) 3 2 12 (fun Q => kX12_signOf_0 g (d - 1) 0 0 Q) (o_iceq (o_iinc 5 (1) (sk_B (g, d, ck, sk, xX12_doMeet, Q) 15)) (o_i (0) (o_zret (g, d, ck, sk, xX12_doMeet, Q))))))))))))))))
set_option maxRecDepth 20000 in
theorem tX12_doMeet_15 {g : sk_G} {d ck sk : Nat} {Q : sk_P} : sk_S (g, d, ck, sk, xX12_doMeet, Q) 15 (kX12_doMeet_15 g d ck sk Q) := s_iload dX12_doMeet_15 (s_iload_n dX12_doMeet_17 rfl (s_icge (tgt := 49) dX12_doMeet_18 (by decide) (s_iconst dX12_doMeet_49 (s_zret dX12_doMeet_50 rfl)) (s_aload_n dX12_doMeet_21 rfl (s_iload_n dX12_doMeet_22 rfl (s_iload dX12_doMeet_23 (s_iload dX12_doMeet_25 (s_iadd dX12_doMeet_27 (s_invT (X := xX12_signOf) (ci := 12) (T := TX12) (N := 49) (K := (fun Q => kX12_signOf_0 g (d - 1) 0 0 Q)) (fun _ => tX12_signOf_0) rfl dX12_doMeet_28 m_X12_signOf rfl (by decide) qm_X12_349 qi_X12_signOf qe_X12_signOf (s_aload_n dX12_doMeet_31 rfl (s_iload_n dX12_doMeet_32 rfl (s_iload dX12_doMeet_33 (s_invT (X := xX12_signOf) (ci := 12) (T := TX12) (N := 49) (K := (fun Q => kX12_signOf_0 g (d - 1) 0 0 Q)) (fun _ => tX12_signOf_0) rfl dX12_doMeet_35 m_X12_signOf rfl (by decide) qm_X12_349 qi_X12_signOf qe_X12_signOf (s_iceq (tgt := 43) dX12_doMeet_38 (by decide) (s_iinc dX12_doMeet_43 (by decide : 5 < 6) (s_goto (tgt := 15) dX12_doMeet_46 (by decide) (sk_id))) (s_iconst dX12_doMeet_41 (s_zret dX12_doMeet_42 rfl)))))))))))))))
theorem dX12_quire_0 : decode cX12_quire 0 = .ok (.aload_n 0, 1) := by decide +kernel
theorem dX12_quire_1 : decode cX12_quire 1 = .ok (.getfield 292, 3) := by decide +kernel
theorem dX12_quire_4 : decode cX12_quire 4 = .ok (.ifCond .eq 12, 3) := by decide +kernel
theorem dX12_quire_7 : decode cX12_quire 7 = .ok (.iload_n 1, 1) := by decide +kernel
theorem dX12_quire_8 : decode cX12_quire 8 = .ok (.iconst 0, 1) := by decide +kernel
theorem dX12_quire_9 : decode cX12_quire 9 = .ok (.iconst 1, 1) := by decide +kernel
theorem dX12_quire_10 : decode cX12_quire 10 = .ok (.invokestatic 224, 3) := by decide +kernel
theorem dX12_quire_13 : decode cX12_quire 13 = .ok (.ifCond .ne 5, 3) := by decide +kernel
theorem dX12_quire_16 : decode cX12_quire 16 = .ok (.iconst (-1), 1) := by decide +kernel
theorem dX12_quire_17 : decode cX12_quire 17 = .ok (.ireturn, 1) := by decide +kernel
theorem dX12_quire_18 : decode cX12_quire 18 = .ok (.aload_n 0, 1) := by decide +kernel
theorem dX12_quire_19 : decode cX12_quire 19 = .ok (.iconst (-1), 1) := by decide +kernel
theorem dX12_quire_20 : decode cX12_quire 20 = .ok (.putfield 420, 3) := by decide +kernel
theorem dX12_quire_23 : decode cX12_quire 23 = .ok (.aload_n 0, 1) := by decide +kernel
theorem dX12_quire_24 : decode cX12_quire 24 = .ok (.iconst 0, 1) := by decide +kernel
theorem dX12_quire_25 : decode cX12_quire 25 = .ok (.iconst 0, 1) := by decide +kernel
theorem dX12_quire_26 : decode cX12_quire 26 = .ok (.iconst 0, 1) := by decide +kernel
theorem dX12_quire_27 : decode cX12_quire 27 = .ok (.iconst 0, 1) := by decide +kernel
theorem dX12_quire_28 : decode cX12_quire 28 = .ok (.iconst (-1), 1) := by decide +kernel
theorem dX12_quire_29 : decode cX12_quire 29 = .ok (.invokevirtual 457, 3) := by decide +kernel
theorem dX12_quire_32 : decode cX12_quire 32 = .ok (.iload_n 1, 1) := by decide +kernel
theorem dX12_quire_33 : decode cX12_quire 33 = .ok (.ifCond .ne 10, 3) := by decide +kernel
theorem dX12_quire_36 : decode cX12_quire 36 = .ok (.aload_n 0, 1) := by decide +kernel
theorem dX12_quire_37 : decode cX12_quire 37 = .ok (.getfield 420, 3) := by decide +kernel
theorem dX12_quire_40 : decode cX12_quire 40 = .ok (.goto 7, 3) := by decide +kernel
theorem dX12_quire_43 : decode cX12_quire 43 = .ok (.aload_n 0, 1) := by decide +kernel
theorem dX12_quire_44 : decode cX12_quire 44 = .ok (.getfield 423, 3) := by decide +kernel
theorem dX12_quire_47 : decode cX12_quire 47 = .ok (.ireturn, 1) := by decide +kernel
set_option maxRecDepth 20000 in
def kX12_quire_0 (g : sk_G) (d ck sk : Nat) (Q : sk_P) : sk_K := o_aload 0 (o_getf 12 27 (o_ifeq (o_i (-1) (o_iret (g, d, ck, sk, xX12_quire, Q))) (o_iload 1 (o_i (0) (o_i (1) (o_stcT (g, d, ck, sk, xX12_quire, Q) 3 3 (fun Q => kX12_in_0 g (d - 1) 0 0 Q) (o_ifne (o_aload 0 (o_i (-1) (o_puti 12 35 (o_aload 0 (o_i (0) (o_i (0) (o_i (0) (o_i (0) (o_i (-1) (o_invB (g, d, ck, sk, xX12_quire, Q) xX12_tryQuire 5 12 0 0 (o_iload 1 (o_ifne (o_aload 0 (o_getf 12 36 (o_iret (g, d, ck, sk, xX12_quire, Q)))) (o_aload 0 (o_getf 12 35 (o_iret (g, d, ck, sk, xX12_quire, Q)))))))))))))))) (o_i (-1) (o_iret (g, d, ck, sk, xX12_quire, Q))))))))))
set_option maxRecDepth 20000 in
theorem tX12_quire_0 {g : sk_G} {d ck sk : Nat} {Q : sk_P} : sk_S (g, d, ck, sk, xX12_quire, Q) 0 (kX12_quire_0 g d ck sk Q) := s_aload_n dX12_quire_0 rfl (s_getf (ci := 12) (j := 27) (C := RX12) (T := TX12) (N := 49) dX12_quire_1 rfl (by decide) (by decide) qf_X12_292 (s_ifeq (tgt := 16) dX12_quire_4 (by decide) (s_iconst dX12_quire_16 (s_iret dX12_quire_17 rfl)) (s_iload_n dX12_quire_7 rfl (s_iconst dX12_quire_8 (s_iconst dX12_quire_9 (s_stcT (X := xX12_in) (K := (fun Q => kX12_in_0 g (d - 1) 0 0 Q)) (fun _ => tX12_in_0) rfl dX12_quire_10 m_X12_in qm_X12_224 qs_X12_in (s_ifne (tgt := 18) dX12_quire_13 (by decide) (s_aload_n dX12_quire_18 rfl (s_iconst dX12_quire_19 (s_puti (ci := 12) (j := 35) (C := RX12) (T := TX12) (N := 49) dX12_quire_20 rfl (by decide) (by decide) rfl (tyX12_ok 35 (by decide)) qf_X12_420 (s_aload_n dX12_quire_23 rfl (s_iconst dX12_quire_24 (s_iconst dX12_quire_25 (s_iconst dX12_quire_26 (s_iconst dX12_quire_27 (s_iconst dX12_quire_28 (s_invB (w' := (g, d, ck, sk, xX12_quire, Q)) (ci := 12) (ck := 0) (sk := 0) (T := TX12) (N := 49) dX12_quire_29 m_X12_tryQuire rfl (by decide) qm_X12_457 qi_X12_tryQuire qe_X12_tryQuire rfl (s_iload_n dX12_quire_32 rfl (s_ifne (tgt := 43) dX12_quire_33 (by decide) (s_aload_n dX12_quire_43 rfl (s_getf (ci := 12) (j := 36) (C := RX12) (T := TX12) (N := 49) dX12_quire_44 rfl (by decide) (by decide) qf_X12_423 (s_iret dX12_quire_47 rfl))) (s_aload_n dX12_quire_36 rfl (s_getf (ci := 12) (j := 35) (C := RX12) (T := TX12) (N := 49) dX12_quire_37 rfl (by decide) (by decide) qf_X12_420 (s_goto (tgt := 47) dX12_quire_40 (by decide) (s_iret dX12_quire_47 rfl)))))))))))))))) (s_iconst dX12_quire_16 (s_iret dX12_quire_17 rfl)))))))))
theorem dX12_tryQuire_0 : decode cX12_tryQuire 0 = .ok (.iload_n 1, 1) := by decide +kernel
theorem dX12_tryQuire_1 : decode cX12_tryQuire 1 = .ok (.aload_n 0, 1) := by decide +kernel
theorem dX12_tryQuire_2 : decode cX12_tryQuire 2 = .ok (.getfield 292, 3) := by decide +kernel
theorem dX12_tryQuire_5 : decode cX12_tryQuire 5 = .ok (.if_icmp .ne 32, 3) := by decide +kernel
theorem dX12_tryQuire_8 : decode cX12_tryQuire 8 = .ok (.aload_n 0, 1) := by decide +kernel
theorem dX12_tryQuire_9 : decode cX12_tryQuire 9 = .ok (.getfield 420, 3) := by decide +kernel
theorem dX12_tryQuire_12 : decode cX12_tryQuire 12 = .ok (.iconst (-1), 1) := by decide +kernel
theorem dX12_tryQuire_13 : decode cX12_tryQuire 13 = .ok (.if_icmp .eq 12, 3) := by decide +kernel
theorem dX12_tryQuire_16 : decode cX12_tryQuire 16 = .ok (.iload 4, 2) := by decide +kernel
theorem dX12_tryQuire_18 : decode cX12_tryQuire 18 = .ok (.aload_n 0, 1) := by decide +kernel
theorem dX12_tryQuire_19 : decode cX12_tryQuire 19 = .ok (.getfield 423, 3) := by decide +kernel
theorem dX12_tryQuire_22 : decode cX12_tryQuire 22 = .ok (.if_icmp .le 14, 3) := by decide +kernel
theorem dX12_tryQuire_25 : decode cX12_tryQuire 25 = .ok (.aload_n 0, 1) := by decide +kernel
theorem dX12_tryQuire_26 : decode cX12_tryQuire 26 = .ok (.iload_n 3, 1) := by decide +kernel
theorem dX12_tryQuire_27 : decode cX12_tryQuire 27 = .ok (.putfield 420, 3) := by decide +kernel
theorem dX12_tryQuire_30 : decode cX12_tryQuire 30 = .ok (.aload_n 0, 1) := by decide +kernel
theorem dX12_tryQuire_31 : decode cX12_tryQuire 31 = .ok (.iload 4, 2) := by decide +kernel
theorem dX12_tryQuire_33 : decode cX12_tryQuire 33 = .ok (.putfield 423, 3) := by decide +kernel
theorem dX12_tryQuire_36 : decode cX12_tryQuire 36 = .ok (.return_, 1) := by decide +kernel
theorem dX12_tryQuire_37 : decode cX12_tryQuire 37 = .ok (.iconst 0, 1) := by decide +kernel
theorem dX12_tryQuire_38 : decode cX12_tryQuire 38 = .ok (.istore 6, 2) := by decide +kernel
theorem dX12_tryQuire_40 : decode cX12_tryQuire 40 = .ok (.iload 6, 2) := by decide +kernel
theorem dX12_tryQuire_42 : decode cX12_tryQuire 42 = .ok (.aload_n 0, 1) := by decide +kernel
theorem dX12_tryQuire_43 : decode cX12_tryQuire 43 = .ok (.getfield 292, 3) := by decide +kernel
theorem dX12_tryQuire_46 : decode cX12_tryQuire 46 = .ok (.if_icmp .ge 61, 3) := by decide +kernel
theorem dX12_tryQuire_49 : decode cX12_tryQuire 49 = .ok (.iload_n 2, 1) := by decide +kernel
theorem dX12_tryQuire_50 : decode cX12_tryQuire 50 = .ok (.iload 6, 2) := by decide +kernel
theorem dX12_tryQuire_52 : decode cX12_tryQuire 52 = .ok (.invokestatic 235, 3) := by decide +kernel
theorem dX12_tryQuire_55 : decode cX12_tryQuire 55 = .ok (.ifCond .ne 46, 3) := by decide +kernel
theorem dX12_tryQuire_58 : decode cX12_tryQuire 58 = .ok (.aload_n 0, 1) := by decide +kernel
theorem dX12_tryQuire_59 : decode cX12_tryQuire 59 = .ok (.iload_n 1, 1) := by decide +kernel
theorem dX12_tryQuire_60 : decode cX12_tryQuire 60 = .ok (.iconst 1, 1) := by decide +kernel
theorem dX12_tryQuire_61 : decode cX12_tryQuire 61 = .ok (.iadd, 1) := by decide +kernel
theorem dX12_tryQuire_62 : decode cX12_tryQuire 62 = .ok (.iload_n 2, 1) := by decide +kernel
theorem dX12_tryQuire_63 : decode cX12_tryQuire 63 = .ok (.iconst 1, 1) := by decide +kernel
theorem dX12_tryQuire_64 : decode cX12_tryQuire 64 = .ok (.iload 6, 2) := by decide +kernel
theorem dX12_tryQuire_66 : decode cX12_tryQuire 66 = .ok (.ishl, 1) := by decide +kernel
theorem dX12_tryQuire_67 : decode cX12_tryQuire 67 = .ok (.ior, 1) := by decide +kernel
theorem dX12_tryQuire_68 : decode cX12_tryQuire 68 = .ok (.bipush 10, 2) := by decide +kernel
theorem dX12_tryQuire_70 : decode cX12_tryQuire 70 = .ok (.iload_n 3, 1) := by decide +kernel
theorem dX12_tryQuire_71 : decode cX12_tryQuire 71 = .ok (.imul, 1) := by decide +kernel
theorem dX12_tryQuire_72 : decode cX12_tryQuire 72 = .ok (.iload 6, 2) := by decide +kernel
theorem dX12_tryQuire_74 : decode cX12_tryQuire 74 = .ok (.iadd, 1) := by decide +kernel
theorem dX12_tryQuire_75 : decode cX12_tryQuire 75 = .ok (.iload 4, 2) := by decide +kernel
theorem dX12_tryQuire_77 : decode cX12_tryQuire 77 = .ok (.iload 5, 2) := by decide +kernel
theorem dX12_tryQuire_79 : decode cX12_tryQuire 79 = .ok (.iconst (-1), 1) := by decide +kernel
theorem dX12_tryQuire_80 : decode cX12_tryQuire 80 = .ok (.if_icmp .ne 7, 3) := by decide +kernel
theorem dX12_tryQuire_83 : decode cX12_tryQuire 83 = .ok (.iconst 0, 1) := by decide +kernel
theorem dX12_tryQuire_84 : decode cX12_tryQuire 84 = .ok (.goto 11, 3) := by decide +kernel
theorem dX12_tryQuire_87 : decode cX12_tryQuire 87 = .ok (.aload_n 0, 1) := by decide +kernel
theorem dX12_tryQuire_88 : decode cX12_tryQuire 88 = .ok (.iload 5, 2) := by decide +kernel
theorem dX12_tryQuire_90 : decode cX12_tryQuire 90 = .ok (.iload 6, 2) := by decide +kernel
theorem dX12_tryQuire_92 : decode cX12_tryQuire 92 = .ok (.invokevirtual 454, 3) := by decide +kernel
theorem dX12_tryQuire_95 : decode cX12_tryQuire 95 = .ok (.iadd, 1) := by decide +kernel
theorem dX12_tryQuire_96 : decode cX12_tryQuire 96 = .ok (.iload 6, 2) := by decide +kernel
theorem dX12_tryQuire_98 : decode cX12_tryQuire 98 = .ok (.invokevirtual 457, 3) := by decide +kernel
theorem dX12_tryQuire_101 : decode cX12_tryQuire 101 = .ok (.iinc 6 1, 3) := by decide +kernel
theorem dX12_tryQuire_104 : decode cX12_tryQuire 104 = .ok (.goto (-64), 3) := by decide +kernel
theorem dX12_tryQuire_107 : decode cX12_tryQuire 107 = .ok (.return_, 1) := by decide +kernel
set_option maxRecDepth 20000 in
def kX12_tryQuire_0 (g : sk_G) (d ck sk : Nat) (Q : sk_P) : sk_K := o_iload 1 (o_aload 0 (o_getf 12 27 (o_icne (o_i (0) (o_istore 6 (sk_B (g, d, ck, sk, xX12_tryQuire, Q) 40))) (o_aload 0 (o_getf 12 35 (o_i (-1) (o_iceq (sk_B (g, d, ck, sk, xX12_tryQuire, Q) 25) (o_iload 4 (o_aload 0 (o_getf 12 36 (o_icle (o_ret (g, d, ck, sk, xX12_tryQuire, Q)) (sk_B (g, d, ck, sk, xX12_tryQuire, Q) 25))))))))))))
set_option maxRecDepth 20000 in
theorem tX12_tryQuire_0 {g : sk_G} {d ck sk : Nat} {Q : sk_P} : sk_S (g, d, ck, sk, xX12_tryQuire, Q) 0 (kX12_tryQuire_0 g d ck sk Q) := s_iload_n dX12_tryQuire_0 rfl (s_aload_n dX12_tryQuire_1 rfl (s_getf (ci := 12) (j := 27) (C := RX12) (T := TX12) (N := 49) dX12_tryQuire_2 rfl (by decide) (by decide) qf_X12_292 (s_icne (tgt := 37) dX12_tryQuire_5 (by decide) (s_iconst dX12_tryQuire_37 (s_istore dX12_tryQuire_38 (by decide : 6 < 7) (sk_id))) (s_aload_n dX12_tryQuire_8 rfl (s_getf (ci := 12) (j := 35) (C := RX12) (T := TX12) (N := 49) dX12_tryQuire_9 rfl (by decide) (by decide) qf_X12_420 (s_iconst dX12_tryQuire_12 (s_iceq (tgt := 25) dX12_tryQuire_13 (by decide) (sk_id) (s_iload dX12_tryQuire_16 (s_aload_n dX12_tryQuire_18 rfl (s_getf (ci := 12) (j := 36) (C := RX12) (T := TX12) (N := 49) dX12_tryQuire_19 rfl (by decide) (by decide) qf_X12_423 (s_icle (tgt := 36) dX12_tryQuire_22 (by decide) (s_ret dX12_tryQuire_36 rfl) (sk_id))))))))))))
def kX12_tryQuire_25 (g : sk_G) (d ck sk : Nat) (Q : sk_P) : sk_K := o_aload 0 (o_iload 3 (o_puti 12 35 (o_aload 0 (o_iload 4 (o_puti 12 36 (o_ret (g, d, ck, sk, xX12_tryQuire, Q)))))))
theorem tX12_tryQuire_25 {g : sk_G} {d ck sk : Nat} {Q : sk_P} : sk_S (g, d, ck, sk, xX12_tryQuire, Q) 25 (kX12_tryQuire_25 g d ck sk Q) := s_aload_n dX12_tryQuire_25 rfl (s_iload_n dX12_tryQuire_26 rfl (s_puti (ci := 12) (j := 35) (C := RX12) (T := TX12) (N := 49) dX12_tryQuire_27 rfl (by decide) (by decide) rfl (tyX12_ok 35 (by decide)) qf_X12_420 (s_aload_n dX12_tryQuire_30 rfl (s_iload dX12_tryQuire_31 (s_puti (ci := 12) (j := 36) (C := RX12) (T := TX12) (N := 49) dX12_tryQuire_33 rfl (by decide) (by decide) rfl (tyX12_ok 36 (by decide)) qf_X12_423 (s_ret dX12_tryQuire_36 rfl))))))
set_option maxRecDepth 20000 in
def kX12_tryQuire_40 (g : sk_G) (d ck sk : Nat) (Q : sk_P) : sk_K := o_iload 6 (o_aload 0 (o_getf 12 27 (o_icge (o_ret (g, d, ck, sk, xX12_tryQuire, Q)) (o_iload 2 (o_iload 6 (o_stcT (g, d, ck, sk, xX12_tryQuire, Q) 2 2 (fun Q => kX12_has_0 g (d - 1) 0 0 Q) (o_ifne (o_iinc 6 (1) (sk_B (g, d, ck, sk, xX12_tryQuire, Q) 40)) (o_aload 0 (o_iload 1 (o_i (1) (o_iadd (o_iload 2 (o_i (1) (o_iload 6 (o_ishl (o_ior (o_i (10) (o_iload 3 (o_imul (o_iload 6 (o_iadd (o_iload 4 (o_iload 5 (o_i (-1) (o_icne (o_aload 0 (o_iload 5 (o_iload 6 (o_invB (g, d, ck, sk, xX12_tryQuire, Q) xX12_meetsOf 2 12 0 0 (o_iadd (o_iload 6 (o_invB (g, d, ck, sk, xX12_tryQuire, Q) xX12_tryQuire 5 12 0 0 (o_iinc 6 (1) (sk_B (g, d, ck, sk, xX12_tryQuire, Q) 40))))))))) (o_i (0) (o_iadd (o_iload 6 (o_invB (g, d, ck, sk, xX12_tryQuire, Q) xX12_tryQuire 5 12 0 0 (o_iinc 6 (1) (sk_B (g, d, ck, sk, xX12_tryQuire, Q) 40)))))))))))))))))))))))))))))))
set_option maxRecDepth 20000 in
theorem tX12_tryQuire_40 {g : sk_G} {d ck sk : Nat} {Q : sk_P} : sk_S (g, d, ck, sk, xX12_tryQuire, Q) 40 (kX12_tryQuire_40 g d ck sk Q) := s_iload dX12_tryQuire_40 (s_aload_n dX12_tryQuire_42 rfl (s_getf (ci := 12) (j := 27) (C := RX12) (T := TX12) (N := 49) dX12_tryQuire_43 rfl (by decide) (by decide) qf_X12_292 (s_icge (tgt := 107) dX12_tryQuire_46 (by decide) (s_ret dX12_tryQuire_107 rfl) (s_iload_n dX12_tryQuire_49 rfl (s_iload dX12_tryQuire_50 (s_stcT (X := xX12_has) (K := (fun Q => kX12_has_0 g (d - 1) 0 0 Q)) (fun _ => tX12_has_0) rfl dX12_tryQuire_52 m_X12_has qm_X12_235 qs_X12_has (s_ifne (tgt := 101) dX12_tryQuire_55 (by decide) (s_iinc dX12_tryQuire_101 (by decide : 6 < 7) (s_goto (tgt := 40) dX12_tryQuire_104 (by decide) (sk_id))) (s_aload_n dX12_tryQuire_58 rfl (s_iload_n dX12_tryQuire_59 rfl (s_iconst dX12_tryQuire_60 (s_iadd dX12_tryQuire_61 (s_iload_n dX12_tryQuire_62 rfl (s_iconst dX12_tryQuire_63 (s_iload dX12_tryQuire_64 (s_ishl dX12_tryQuire_66 (s_ior dX12_tryQuire_67 (s_bipush dX12_tryQuire_68 rfl (s_iload_n dX12_tryQuire_70 rfl (s_imul dX12_tryQuire_71 (s_iload dX12_tryQuire_72 (s_iadd dX12_tryQuire_74 (s_iload dX12_tryQuire_75 (s_iload dX12_tryQuire_77 (s_iconst dX12_tryQuire_79 (s_icne (tgt := 87) dX12_tryQuire_80 (by decide) (s_aload_n dX12_tryQuire_87 rfl (s_iload dX12_tryQuire_88 (s_iload dX12_tryQuire_90 (s_invB (w' := (g, d, ck, sk, xX12_tryQuire, Q)) (ci := 12) (ck := 0) (sk := 0) (T := TX12) (N := 49) dX12_tryQuire_92 m_X12_meetsOf rfl (by decide) qm_X12_454 qi_X12_meetsOf qe_X12_meetsOf rfl (s_iadd dX12_tryQuire_95 (s_iload dX12_tryQuire_96 (s_invB (w' := (g, d, ck, sk, xX12_tryQuire, Q)) (ci := 12) (ck := 0) (sk := 0) (T := TX12) (N := 49) dX12_tryQuire_98 m_X12_tryQuire rfl (by decide) qm_X12_457 qi_X12_tryQuire qe_X12_tryQuire rfl (s_iinc dX12_tryQuire_101 (by decide : 6 < 7) (s_goto (tgt := 40) dX12_tryQuire_104 (by decide) (sk_id)))))))))) (s_iconst dX12_tryQuire_83 (s_goto (tgt := 95) dX12_tryQuire_84 (by decide) (s_iadd dX12_tryQuire_95 (s_iload dX12_tryQuire_96 (s_invB (w' := (g, d, ck, sk, xX12_tryQuire, Q)) (ci := 12) (ck := 0) (sk := 0) (T := TX12) (N := 49) dX12_tryQuire_98 m_X12_tryQuire rfl (by decide) qm_X12_457 qi_X12_tryQuire qe_X12_tryQuire rfl (s_iinc dX12_tryQuire_101 (by decide : 6 < 7) (s_goto (tgt := 40) dX12_tryQuire_104 (by decide) (sk_id)))))))))))))))))))))))))))))))))
