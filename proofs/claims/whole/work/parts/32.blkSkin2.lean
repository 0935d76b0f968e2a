theorem dX11_lettersThat_0 : decode cX11_lettersThat 0 = .ok (.iconst 0, 1) := by decide +kernel
theorem dX11_lettersThat_1 : decode cX11_lettersThat 1 = .ok (.istore 5, 2) := by decide +kernel
theorem dX11_lettersThat_3 : decode cX11_lettersThat 3 = .ok (.iconst 0, 1) := by decide +kernel
theorem dX11_lettersThat_4 : decode cX11_lettersThat 4 = .ok (.istore 6, 2) := by decide +kernel
theorem dX11_lettersThat_6 : decode cX11_lettersThat 6 = .ok (.iload 6, 2) := by decide +kernel
theorem dX11_lettersThat_8 : decode cX11_lettersThat 8 = .ok (.aload_n 3, 1) := by decide +kernel
theorem dX11_lettersThat_9 : decode cX11_lettersThat 9 = .ok (.getfield 305, 3) := by decide +kernel
theorem dX11_lettersThat_12 : decode cX11_lettersThat 12 = .ok (.if_icmp .ge 55, 3) := by decide +kernel
theorem dX11_lettersThat_15 : decode cX11_lettersThat 15 = .ok (.aload_n 3, 1) := by decide +kernel
theorem dX11_lettersThat_16 : decode cX11_lettersThat 16 = .ok (.iload 6, 2) := by decide +kernel
theorem dX11_lettersThat_18 : decode cX11_lettersThat 18 = .ok (.invokevirtual 312, 3) := by decide +kernel
theorem dX11_lettersThat_21 : decode cX11_lettersThat 21 = .ok (.ifCond .eq 40, 3) := by decide +kernel
theorem dX11_lettersThat_24 : decode cX11_lettersThat 24 = .ok (.aload_n 2, 1) := by decide +kernel
theorem dX11_lettersThat_25 : decode cX11_lettersThat 25 = .ok (.aload_n 0, 1) := by decide +kernel
theorem dX11_lettersThat_26 : decode cX11_lettersThat 26 = .ok (.getfield 19, 3) := by decide +kernel
theorem dX11_lettersThat_29 : decode cX11_lettersThat 29 = .ok (.aload_n 3, 1) := by decide +kernel
theorem dX11_lettersThat_30 : decode cX11_lettersThat 30 = .ok (.iload 6, 2) := by decide +kernel
theorem dX11_lettersThat_32 : decode cX11_lettersThat 32 = .ok (.iload 4, 2) := by decide +kernel
theorem dX11_lettersThat_34 : decode cX11_lettersThat 34 = .ok (.invokevirtual 308, 3) := by decide +kernel
theorem dX11_lettersThat_37 : decode cX11_lettersThat 37 = .ok (.aload_n 3, 1) := by decide +kernel
theorem dX11_lettersThat_38 : decode cX11_lettersThat 38 = .ok (.getfield 315, 3) := by decide +kernel
theorem dX11_lettersThat_41 : decode cX11_lettersThat 41 = .ok (.iload 6, 2) := by decide +kernel
theorem dX11_lettersThat_43 : decode cX11_lettersThat 43 = .ok (.iaload, 1) := by decide +kernel
theorem dX11_lettersThat_44 : decode cX11_lettersThat 44 = .ok (.aload_n 0, 1) := by decide +kernel
theorem dX11_lettersThat_45 : decode cX11_lettersThat 45 = .ok (.getfield 19, 3) := by decide +kernel
theorem dX11_lettersThat_48 : decode cX11_lettersThat 48 = .ok (.invokevirtual 262, 3) := by decide +kernel
theorem dX11_lettersThat_51 : decode cX11_lettersThat 51 = .ok (.invokevirtual 476, 3) := by decide +kernel
theorem dX11_lettersThat_54 : decode cX11_lettersThat 54 = .ok (.iload_n 1, 1) := by decide +kernel
theorem dX11_lettersThat_55 : decode cX11_lettersThat 55 = .ok (.if_icmp .ne 6, 3) := by decide +kernel
theorem dX11_lettersThat_58 : decode cX11_lettersThat 58 = .ok (.iinc 5 1, 3) := by decide +kernel
theorem dX11_lettersThat_61 : decode cX11_lettersThat 61 = .ok (.iinc 6 1, 3) := by decide +kernel
theorem dX11_lettersThat_64 : decode cX11_lettersThat 64 = .ok (.goto (-58), 3) := by decide +kernel
theorem dX11_lettersThat_67 : decode cX11_lettersThat 67 = .ok (.iload 5, 2) := by decide +kernel
theorem dX11_lettersThat_69 : decode cX11_lettersThat 69 = .ok (.ireturn, 1) := by decide +kernel
def kX11_lettersThat_0 (g : sk_G) (d ck sk : Nat) (Q : sk_P) : sk_K := o_i (0) (o_istore 5 (o_i (0) (o_istore 6 (sk_B (g, d, ck, sk, xX11_lettersThat, Q) 6))))
theorem tX11_lettersThat_0 {g : sk_G} {d ck sk : Nat} {Q : sk_P} : sk_S (g, d, ck, sk, xX11_lettersThat, Q) 0 (kX11_lettersThat_0 g d ck sk Q) := s_iconst dX11_lettersThat_0 (s_istore dX11_lettersThat_1 (by decide : 5 < 7) (s_iconst dX11_lettersThat_3 (s_istore dX11_lettersThat_4 (by decide : 6 < 7) (sk_id))))
set_option maxRecDepth 20000 in
def kX11_lettersThat_6 (g : sk_G) (d ck sk : Nat) (Q : sk_P) : sk_K := o_iload 6 (o_aload 3 (o_getf 10 5 (o_icge (o_iload 5 (o_iret (g, d, ck, sk, xX11_lettersThat, Q))) (o_aload 3 (o_iload 6 (o_invT (g, d, ck, sk, xX11_lettersThat, Q) 2 1 10 (fun Q => kX10_isLetter_0 g (d - 1) 0 0 Q) (o_ifeq (o_iinc 6 (1) (sk_B (g, d, ck, sk, xX11_lettersThat, Q) 6)) (o_aload 2 (o_aload 0 (o_getf 11 1 (o_aload 3 (o_iload 6 (o_iload 4 (o_invB (g, d, ck, sk, xX11_lettersThat, Q) xX7_cellOf 3 7 0 0 (o_aload 3 (o_getf 10 0 (o_iload 6 (o_iaload (o_aload 0 (o_getf 11 1 (o_invT (g, d, ck, sk, xX11_lettersThat, Q) 1 0 7 (fun Q => kX7_legible_0 g (d - 1) 0 0 Q) (o_invB (g, d, ck, sk, xX11_lettersThat, Q) xX5_verdict 3 5 0 0 (o_iload 1 (o_icne (o_iinc 6 (1) (sk_B (g, d, ck, sk, xX11_lettersThat, Q) 6)) (o_iinc 5 (1) (o_iinc 6 (1) (sk_B (g, d, ck, sk, xX11_lettersThat, Q) 6)))))))))))))))))))))))))))
set_option maxRecDepth 20000 in
theorem tX11_lettersThat_6 {g : sk_G} {d ck sk : Nat} {Q : sk_P} : sk_S (g, d, ck, sk, xX11_lettersThat, Q) 6 (kX11_lettersThat_6 g d ck sk Q) := s_iload dX11_lettersThat_6 (s_aload_n dX11_lettersThat_8 rfl (s_getfN (ci := 10) (j := 5) (C := RX10) (T := TX10) (N := 9) dX11_lettersThat_9 rfl (by decide) (by decide) qn_X11_305 (s_icge (tgt := 67) dX11_lettersThat_12 (by decide) (s_iload dX11_lettersThat_67 (s_iret dX11_lettersThat_69 rfl)) (s_aload_n dX11_lettersThat_15 rfl (s_iload dX11_lettersThat_16 (s_invT (X := xX10_isLetter) (ci := 10) (T := TX10) (N := 9) (K := (fun Q => kX10_isLetter_0 g (d - 1) 0 0 Q)) (fun _ => tX10_isLetter_0) rfl dX11_lettersThat_18 m_X10_isLetter rfl (by decide) qm_X11_312 qi_X10_isLetter qe_X10_isLetter (s_ifeq (tgt := 61) dX11_lettersThat_21 (by decide) (s_iinc dX11_lettersThat_61 (by decide : 6 < 7) (s_goto (tgt := 6) dX11_lettersThat_64 (by decide) (sk_id))) (s_aload_n dX11_lettersThat_24 rfl (s_aload_n dX11_lettersThat_25 rfl (s_getf (ci := 11) (j := 1) (C := RX11) (T := TX11) (N := 17) dX11_lettersThat_26 rfl (by decide) (by decide) qf_X11_19 (s_aload_n dX11_lettersThat_29 rfl (s_iload dX11_lettersThat_30 (s_iload dX11_lettersThat_32 (s_invB (w' := (g, d, ck, sk, xX11_lettersThat, Q)) (ci := 7) (ck := 0) (sk := 0) (T := TX7) (N := 4) dX11_lettersThat_34 m_X7_cellOf rfl (by decide) qm_X11_308 qi_X7_cellOf qe_X7_cellOf rfl (s_aload_n dX11_lettersThat_37 rfl (s_getfN (ci := 10) (j := 0) (C := RX10) (T := TX10) (N := 9) dX11_lettersThat_38 rfl (by decide) (by decide) qn_X11_315 (s_iload dX11_lettersThat_41 (s_iaload dX11_lettersThat_43 (s_aload_n dX11_lettersThat_44 rfl (s_getf (ci := 11) (j := 1) (C := RX11) (T := TX11) (N := 17) dX11_lettersThat_45 rfl (by decide) (by decide) qf_X11_19 (s_invT (X := xX7_legible) (ci := 7) (T := TX7) (N := 4) (K := (fun Q => kX7_legible_0 g (d - 1) 0 0 Q)) (fun _ => tX7_legible_0) rfl dX11_lettersThat_48 m_X7_legible rfl (by decide) qm_X11_262 qi_X7_legible qe_X7_legible (s_invB (w' := (g, d, ck, sk, xX11_lettersThat, Q)) (ci := 5) (ck := 0) (sk := 0) (T := TX5) (N := 6) dX11_lettersThat_51 m_X5_verdict rfl (by decide) qm_X11_476 qi_X5_verdict qe_X5_verdict rfl (s_iload_n dX11_lettersThat_54 rfl (s_icne (tgt := 61) dX11_lettersThat_55 (by decide) (s_iinc dX11_lettersThat_61 (by decide : 6 < 7) (s_goto (tgt := 6) dX11_lettersThat_64 (by decide) (sk_id))) (s_iinc dX11_lettersThat_58 (by decide : 5 < 7) (s_iinc dX11_lettersThat_61 (by decide : 6 < 7) (s_goto (tgt := 6) dX11_lettersThat_64 (by decide) (sk_id))))))))))))))))))))))))))))
theorem dX11_may_0 : decode cX11_may 0 = .ok (.aload_n 0, 1) := by decide +kernel
theorem dX11_may_1 : decode cX11_may 1 = .ok (.getfield 29, 3) := by decide +kernel
theorem dX11_may_4 : decode cX11_may 4 = .ok (.iload_n 1, 1) := by decide +kernel
theorem dX11_may_5 : decode cX11_may 5 = .ok (.invokevirtual 171, 3) := by decide +kernel
theorem dX11_may_8 : decode cX11_may 8 = .ok (.astore_n 3, 1) := by decide +kernel
theorem dX11_may_9 : decode cX11_may 9 = .ok (.aload_n 3, 1) := by decide +kernel
theorem dX11_may_10 : decode cX11_may 10 = .ok (.ifnull 18, 3) := by decide +kernel
theorem dX11_may_13 : decode cX11_may 13 = .ok (.aload_n 0, 1) := by decide +kernel
theorem dX11_may_14 : decode cX11_may 14 = .ok (.getfield 19, 3) := by decide +kernel
theorem dX11_may_17 : decode cX11_may 17 = .ok (.invokevirtual 141, 3) := by decide +kernel
theorem dX11_may_20 : decode cX11_may 20 = .ok (.ifCond .eq 8, 3) := by decide +kernel
theorem dX11_may_23 : decode cX11_may 23 = .ok (.iload_n 2, 1) := by decide +kernel
theorem dX11_may_24 : decode cX11_may 24 = .ok (.iconst (-1), 1) := by decide +kernel
theorem dX11_may_25 : decode cX11_may 25 = .ok (.if_icmp .ge 5, 3) := by decide +kernel
theorem dX11_may_28 : decode cX11_may 28 = .ok (.iconst (-1), 1) := by decide +kernel
theorem dX11_may_29 : decode cX11_may 29 = .ok (.ireturn, 1) := by decide +kernel
theorem dX11_may_30 : decode cX11_may 30 = .ok (.iconst 0, 1) := by decide +kernel
theorem dX11_may_31 : decode cX11_may 31 = .ok (.istore 4, 2) := by decide +kernel
theorem dX11_may_33 : decode cX11_may 33 = .ok (.iconst 0, 1) := by decide +kernel
theorem dX11_may_34 : decode cX11_may 34 = .ok (.istore 5, 2) := by decide +kernel
theorem dX11_may_36 : decode cX11_may 36 = .ok (.iload 5, 2) := by decide +kernel
theorem dX11_may_38 : decode cX11_may 38 = .ok (.aload_n 0, 1) := by decide +kernel
theorem dX11_may_39 : decode cX11_may 39 = .ok (.getfield 19, 3) := by decide +kernel
theorem dX11_may_42 : decode cX11_may 42 = .ok (.invokevirtual 275, 3) := by decide +kernel
theorem dX11_may_45 : decode cX11_may 45 = .ok (.if_icmp .ge 31, 3) := by decide +kernel
theorem dX11_may_48 : decode cX11_may 48 = .ok (.aload_n 0, 1) := by decide +kernel
theorem dX11_may_49 : decode cX11_may 49 = .ok (.aload_n 3, 1) := by decide +kernel
theorem dX11_may_50 : decode cX11_may 50 = .ok (.iload 5, 2) := by decide +kernel
theorem dX11_may_52 : decode cX11_may 52 = .ok (.invokevirtual 278, 3) := by decide +kernel
theorem dX11_may_55 : decode cX11_may 55 = .ok (.ifCond .le 15, 3) := by decide +kernel
theorem dX11_may_58 : decode cX11_may 58 = .ok (.iload 4, 2) := by decide +kernel
theorem dX11_may_60 : decode cX11_may 60 = .ok (.iload_n 2, 1) := by decide +kernel
theorem dX11_may_61 : decode cX11_may 61 = .ok (.if_icmp .ne 6, 3) := by decide +kernel
theorem dX11_may_64 : decode cX11_may 64 = .ok (.iload 5, 2) := by decide +kernel
theorem dX11_may_66 : decode cX11_may 66 = .ok (.ireturn, 1) := by decide +kernel
theorem dX11_may_67 : decode cX11_may 67 = .ok (.iinc 4 1, 3) := by decide +kernel
theorem dX11_may_70 : decode cX11_may 70 = .ok (.iinc 5 1, 3) := by decide +kernel
theorem dX11_may_73 : decode cX11_may 73 = .ok (.goto (-37), 3) := by decide +kernel
theorem dX11_may_76 : decode cX11_may 76 = .ok (.iload_n 2, 1) := by decide +kernel
theorem dX11_may_77 : decode cX11_may 77 = .ok (.iconst (-1), 1) := by decide +kernel
theorem dX11_may_78 : decode cX11_may 78 = .ok (.if_icmp .ne 8, 3) := by decide +kernel
theorem dX11_may_81 : decode cX11_may 81 = .ok (.iload 4, 2) := by decide +kernel
theorem dX11_may_83 : decode cX11_may 83 = .ok (.goto 4, 3) := by decide +kernel
theorem dX11_may_86 : decode cX11_may 86 = .ok (.iconst (-1), 1) := by decide +kernel
theorem dX11_may_87 : decode cX11_may 87 = .ok (.ireturn, 1) := by decide +kernel
set_option maxRecDepth 20000 in
def kX11_may_0 (g : sk_G) (d ck sk : Nat) (Q : sk_P) : sk_K := o_aload 0 (o_getf 11 3 (o_iload 1 (o_invT (g, d, ck, sk, xX11_may, Q) 2 1 8 (fun Q => kX8_writingAt_0 g (d - 1) 0 0 Q) (o_astore 3 (o_aload 3 (o_ifnull (o_i (-1) (o_iret (g, d, ck, sk, xX11_may, Q))) (o_aload 0 (o_getf 11 1 (o_invT (g, d, ck, sk, xX11_may, Q) 1 0 7 (fun Q => kX7_isSkin_0 g (d - 1) 0 0 Q) (o_ifeq (o_i (-1) (o_iret (g, d, ck, sk, xX11_may, Q))) (o_iload 2 (o_i (-1) (o_icge (o_i (0) (o_istore 4 (o_i (0) (o_istore 5 (sk_B (g, d, ck, sk, xX11_may, Q) 36))))) (o_i (-1) (o_iret (g, d, ck, sk, xX11_may, Q))))))))))))))))
set_option maxRecDepth 20000 in
theorem tX11_may_0 {g : sk_G} {d ck sk : Nat} {Q : sk_P} : sk_S (g, d, ck, sk, xX11_may, Q) 0 (kX11_may_0 g d ck sk Q) := s_aload_n dX11_may_0 rfl (s_getf (ci := 11) (j := 3) (C := RX11) (T := TX11) (N := 17) dX11_may_1 rfl (by decide) (by decide) qf_X11_29 (s_iload_n dX11_may_4 rfl (s_invT (X := xX8_writingAt) (ci := 8) (T := TX8) (N := 7) (K := (fun Q => kX8_writingAt_0 g (d - 1) 0 0 Q)) (fun _ => tX8_writingAt_0) rfl dX11_may_5 m_X8_writingAt rfl (by decide) qm_X11_171 qi_X8_writingAt qe_X8_writingAt (s_astore_n dX11_may_8 rfl (by decide : 3 < 6) (s_aload_n dX11_may_9 rfl (s_ifnull (tgt := 28) dX11_may_10 (by decide) (s_iconst dX11_may_28 (s_iret dX11_may_29 rfl)) (s_aload_n dX11_may_13 rfl (s_getf (ci := 11) (j := 1) (C := RX11) (T := TX11) (N := 17) dX11_may_14 rfl (by decide) (by decide) qf_X11_19 (s_invT (X := xX7_isSkin) (ci := 7) (T := TX7) (N := 4) (K := (fun Q => kX7_isSkin_0 g (d - 1) 0 0 Q)) (fun _ => tX7_isSkin_0) rfl dX11_may_17 m_X7_isSkin rfl (by decide) qm_X11_141 qi_X7_isSkin qe_X7_isSkin (s_ifeq (tgt := 28) dX11_may_20 (by decide) (s_iconst dX11_may_28 (s_iret dX11_may_29 rfl)) (s_iload_n dX11_may_23 rfl (s_iconst dX11_may_24 (s_icge (tgt := 30) dX11_may_25 (by decide) (s_iconst dX11_may_30 (s_istore dX11_may_31 (by decide : 4 < 6) (s_iconst dX11_may_33 (s_istore dX11_may_34 (by decide : 5 < 6) (sk_id))))) (s_iconst dX11_may_28 (s_iret dX11_may_29 rfl)))))))))))))))
set_option maxRecDepth 20000 in
def kX11_may_36 (g : sk_G) (d ck sk : Nat) (Q : sk_P) : sk_K := o_iload 5 (o_aload 0 (o_getf 11 1 (o_invT (g, d, ck, sk, xX11_may, Q) 1 0 7 (fun Q => kX7_spots_0 g (d - 1) 0 0 Q) (o_icge (o_iload 2 (o_i (-1) (o_icne (o_i (-1) (o_iret (g, d, ck, sk, xX11_may, Q))) (o_iload 4 (o_iret (g, d, ck, sk, xX11_may, Q)))))) (o_aload 0 (o_aload 3 (o_iload 5 (o_invB (g, d, ck, sk, xX11_may, Q) xX11_standing 2 11 0 0 (o_ifle (o_iinc 5 (1) (sk_B (g, d, ck, sk, xX11_may, Q) 36)) (o_iload 4 (o_iload 2 (o_icne (o_iinc 4 (1) (o_iinc 5 (1) (sk_B (g, d, ck, sk, xX11_may, Q) 36))) (o_iload 5 (o_iret (g, d, ck, sk, xX11_may, Q)))))))))))))))
set_option maxRecDepth 20000 in
theorem tX11_may_36 {g : sk_G} {d ck sk : Nat} {Q : sk_P} : sk_S (g, d, ck, sk, xX11_may, Q) 36 (kX11_may_36 g d ck sk Q) := s_iload dX11_may_36 (s_aload_n dX11_may_38 rfl (s_getf (ci := 11) (j := 1) (C := RX11) (T := TX11) (N := 17) dX11_may_39 rfl (by decide) (by decide) qf_X11_19 (s_invT (X := xX7_spots) (ci := 7) (T := TX7) (N := 4) (K := (fun Q => kX7_spots_0 g (d - 1) 0 0 Q)) (fun _ => tX7_spots_0) rfl dX11_may_42 m_X7_spots rfl (by decide) qm_X11_275 qi_X7_spots qe_X7_spots (s_icge (tgt := 76) dX11_may_45 (by decide) (s_iload_n dX11_may_76 rfl (s_iconst dX11_may_77 (s_icne (tgt := 86) dX11_may_78 (by decide) (s_iconst dX11_may_86 (s_iret dX11_may_87 rfl)) (s_iload dX11_may_81 (s_goto (tgt := 87) dX11_may_83 (by decide) (s_iret dX11_may_87 rfl)))))) (s_aload_n dX11_may_48 rfl (s_aload_n dX11_may_49 rfl (s_iload dX11_may_50 (s_invB (w' := (g, d, ck, sk, xX11_may, Q)) (ci := 11) (ck := 0) (sk := 0) (T := TX11) (N := 17) dX11_may_52 m_X11_standing rfl (by decide) qm_X11_278 qi_X11_standing qe_X11_standing rfl (s_ifle (tgt := 70) dX11_may_55 (by decide) (s_iinc dX11_may_70 (by decide : 5 < 6) (s_goto (tgt := 36) dX11_may_73 (by decide) (sk_id))) (s_iload dX11_may_58 (s_iload_n dX11_may_60 rfl (s_icne (tgt := 67) dX11_may_61 (by decide) (s_iinc dX11_may_67 (by decide : 4 < 6) (s_iinc dX11_may_70 (by decide : 5 < 6) (s_goto (tgt := 36) dX11_may_73 (by decide) (sk_id)))) (s_iload dX11_may_64 (s_iret dX11_may_66 rfl))))))))))))))
theorem dX11_standing_0 : decode cX11_standing 0 = .ok (.aload_n 0, 1) := by decide +kernel
theorem dX11_standing_1 : decode cX11_standing 1 = .ok (.getfield 19, 3) := by decide +kernel
theorem dX11_standing_4 : decode cX11_standing 4 = .ok (.aload_n 1, 1) := by decide +kernel
theorem dX11_standing_5 : decode cX11_standing 5 = .ok (.iload_n 2, 1) := by decide +kernel
theorem dX11_standing_6 : decode cX11_standing 6 = .ok (.invokevirtual 202, 3) := by decide +kernel
theorem dX11_standing_9 : decode cX11_standing 9 = .ok (.ifCond .eq 17, 3) := by decide +kernel
theorem dX11_standing_12 : decode cX11_standing 12 = .ok (.aload_n 0, 1) := by decide +kernel
theorem dX11_standing_13 : decode cX11_standing 13 = .ok (.iconst 2, 1) := by decide +kernel
theorem dX11_standing_14 : decode cX11_standing 14 = .ok (.aload_n 0, 1) := by decide +kernel
theorem dX11_standing_15 : decode cX11_standing 15 = .ok (.getfield 36, 3) := by decide +kernel
theorem dX11_standing_18 : decode cX11_standing 18 = .ok (.aload_n 1, 1) := by decide +kernel
theorem dX11_standing_19 : decode cX11_standing 19 = .ok (.iload_n 2, 1) := by decide +kernel
theorem dX11_standing_20 : decode cX11_standing 20 = .ok (.invokevirtual 271, 3) := by decide +kernel
theorem dX11_standing_23 : decode cX11_standing 23 = .ok (.ifCond .le 5, 3) := by decide +kernel
theorem dX11_standing_26 : decode cX11_standing 26 = .ok (.iconst 0, 1) := by decide +kernel
theorem dX11_standing_27 : decode cX11_standing 27 = .ok (.ireturn, 1) := by decide +kernel
theorem dX11_standing_28 : decode cX11_standing 28 = .ok (.aload_n 0, 1) := by decide +kernel
theorem dX11_standing_29 : decode cX11_standing 29 = .ok (.iconst 0, 1) := by decide +kernel
theorem dX11_standing_30 : decode cX11_standing 30 = .ok (.aload_n 0, 1) := by decide +kernel
theorem dX11_standing_31 : decode cX11_standing 31 = .ok (.getfield 36, 3) := by decide +kernel
theorem dX11_standing_34 : decode cX11_standing 34 = .ok (.aload_n 1, 1) := by decide +kernel
theorem dX11_standing_35 : decode cX11_standing 35 = .ok (.iload_n 2, 1) := by decide +kernel
theorem dX11_standing_36 : decode cX11_standing 36 = .ok (.invokevirtual 271, 3) := by decide +kernel
theorem dX11_standing_39 : decode cX11_standing 39 = .ok (.ireturn, 1) := by decide +kernel
set_option maxRecDepth 20000 in
def kX11_standing_0 (g : sk_G) (d ck sk : Nat) (Q : sk_P) : sk_K := o_aload 0 (o_getf 11 1 (o_aload 1 (o_iload 2 (o_invB (g, d, ck, sk, xX11_standing, Q) xX7_does 2 7 0 0 (o_ifeq (o_i (0) (o_iret (g, d, ck, sk, xX11_standing, Q))) (o_aload 0 (o_i (2) (o_aload 0 (o_getf 11 4 (o_aload 1 (o_iload 2 (o_invB (g, d, ck, sk, xX11_standing, Q) xX11_lettersThat 4 11 0 0 (o_ifle (o_aload 0 (o_i (0) (o_aload 0 (o_getf 11 4 (o_aload 1 (o_iload 2 (o_invB (g, d, ck, sk, xX11_standing, Q) xX11_lettersThat 4 11 0 0 (o_iret (g, d, ck, sk, xX11_standing, Q))))))))) (o_i (0) (o_iret (g, d, ck, sk, xX11_standing, Q))))))))))))))))
set_option maxRecDepth 20000 in
theorem tX11_standing_0 {g : sk_G} {d ck sk : Nat} {Q : sk_P} : sk_S (g, d, ck, sk, xX11_standing, Q) 0 (kX11_standing_0 g d ck sk Q) := s_aload_n dX11_standing_0 rfl (s_getf (ci := 11) (j := 1) (C := RX11) (T := TX11) (N := 17) dX11_standing_1 rfl (by decide) (by decide) qf_X11_19 (s_aload_n dX11_standing_4 rfl (s_iload_n dX11_standing_5 rfl (s_invB (w' := (g, d, ck, sk, xX11_standing, Q)) (ci := 7) (ck := 0) (sk := 0) (T := TX7) (N := 4) dX11_standing_6 m_X7_does rfl (by decide) qm_X11_202 qi_X7_does qe_X7_does rfl (s_ifeq (tgt := 26) dX11_standing_9 (by decide) (s_iconst dX11_standing_26 (s_iret dX11_standing_27 rfl)) (s_aload_n dX11_standing_12 rfl (s_iconst dX11_standing_13 (s_aload_n dX11_standing_14 rfl (s_getf (ci := 11) (j := 4) (C := RX11) (T := TX11) (N := 17) dX11_standing_15 rfl (by decide) (by decide) qf_X11_36 (s_aload_n dX11_standing_18 rfl (s_iload_n dX11_standing_19 rfl (s_invB (w' := (g, d, ck, sk, xX11_standing, Q)) (ci := 11) (ck := 0) (sk := 0) (T := TX11) (N := 17) dX11_standing_20 m_X11_lettersThat rfl (by decide) qm_X11_271 qi_X11_lettersThat qe_X11_lettersThat rfl (s_ifle (tgt := 28) dX11_standing_23 (by decide) (s_aload_n dX11_standing_28 rfl (s_iconst dX11_standing_29 (s_aload_n dX11_standing_30 rfl (s_getf (ci := 11) (j := 4) (C := RX11) (T := TX11) (N := 17) dX11_standing_31 rfl (by decide) (by decide) qf_X11_36 (s_aload_n dX11_standing_34 rfl (s_iload_n dX11_standing_35 rfl (s_invB (w' := (g, d, ck, sk, xX11_standing, Q)) (ci := 11) (ck := 0) (sk := 0) (T := TX11) (N := 17) dX11_standing_36 m_X11_lettersThat rfl (by decide) qm_X11_271 qi_X11_lettersThat qe_X11_lettersThat rfl (s_iret dX11_standing_39 rfl)))))))) (s_iconst dX11_standing_26 (s_iret dX11_standing_27 rfl)))))))))))))))
theorem dX11_best_0 : decode cX11_best 0 = .ok (.aload_n 0, 1) := by decide +kernel
theorem dX11_best_1 : decode cX11_best 1 = .ok (.getfield 29, 3) := by decide +kernel
theorem dX11_best_4 : decode cX11_best 4 = .ok (.iload_n 1, 1) := by decide +kernel
theorem dX11_best_5 : decode cX11_best 5 = .ok (.invokevirtual 171, 3) := by decide +kernel
theorem dX11_best_8 : decode cX11_best 8 = .ok (.astore_n 2, 1) := by decide +kernel
theorem dX11_best_9 : decode cX11_best 9 = .ok (.iconst 0, 1) := by decide +kernel
theorem dX11_best_10 : decode cX11_best 10 = .ok (.istore_n 3, 1) := by decide +kernel
theorem dX11_best_11 : decode cX11_best 11 = .ok (.iconst (-1), 1) := by decide +kernel
theorem dX11_best_12 : decode cX11_best 12 = .ok (.istore 4, 2) := by decide +kernel
theorem dX11_best_14 : decode cX11_best 14 = .ok (.iconst 0, 1) := by decide +kernel
theorem dX11_best_15 : decode cX11_best 15 = .ok (.istore 5, 2) := by decide +kernel
theorem dX11_best_17 : decode cX11_best 17 = .ok (.aload_n 2, 1) := by decide +kernel
theorem dX11_best_18 : decode cX11_best 18 = .ok (.ifnull 43, 3) := by decide +kernel
theorem dX11_best_21 : decode cX11_best 21 = .ok (.iload 5, 2) := by decide +kernel
theorem dX11_best_23 : decode cX11_best 23 = .ok (.aload_n 0, 1) := by decide +kernel
theorem dX11_best_24 : decode cX11_best 24 = .ok (.getfield 19, 3) := by decide +kernel
theorem dX11_best_27 : decode cX11_best 27 = .ok (.invokevirtual 275, 3) := by decide +kernel
theorem dX11_best_30 : decode cX11_best 30 = .ok (.if_icmp .ge 31, 3) := by decide +kernel
theorem dX11_best_33 : decode cX11_best 33 = .ok (.aload_n 0, 1) := by decide +kernel
theorem dX11_best_34 : decode cX11_best 34 = .ok (.aload_n 2, 1) := by decide +kernel
theorem dX11_best_35 : decode cX11_best 35 = .ok (.iload 5, 2) := by decide +kernel
theorem dX11_best_37 : decode cX11_best 37 = .ok (.invokevirtual 278, 3) := by decide +kernel
theorem dX11_best_40 : decode cX11_best 40 = .ok (.istore 6, 2) := by decide +kernel
theorem dX11_best_42 : decode cX11_best 42 = .ok (.iload 6, 2) := by decide +kernel
theorem dX11_best_44 : decode cX11_best 44 = .ok (.iload_n 3, 1) := by decide +kernel
theorem dX11_best_45 : decode cX11_best 45 = .ok (.if_icmp .le 10, 3) := by decide +kernel
theorem dX11_best_48 : decode cX11_best 48 = .ok (.iload 6, 2) := by decide +kernel
theorem dX11_best_50 : decode cX11_best 50 = .ok (.istore_n 3, 1) := by decide +kernel
theorem dX11_best_51 : decode cX11_best 51 = .ok (.iload 5, 2) := by decide +kernel
theorem dX11_best_53 : decode cX11_best 53 = .ok (.istore 4, 2) := by decide +kernel
theorem dX11_best_55 : decode cX11_best 55 = .ok (.iinc 5 1, 3) := by decide +kernel
theorem dX11_best_58 : decode cX11_best 58 = .ok (.goto (-41), 3) := by decide +kernel
theorem dX11_best_61 : decode cX11_best 61 = .ok (.iload 4, 2) := by decide +kernel
theorem dX11_best_63 : decode cX11_best 63 = .ok (.ireturn, 1) := by decide +kernel
set_option maxRecDepth 20000 in
def kX11_best_0 (g : sk_G) (d ck sk : Nat) (Q : sk_P) : sk_K := o_aload 0 (o_getf 11 3 (o_iload 1 (o_invT (g, d, ck, sk, xX11_best, Q) 2 1 8 (fun Q => kX8_writingAt_0 g (d - 1) 0 0 Q) (o_astore 2 (o_i (0) (o_istore 3 (o_i (-1) (o_istore 4 (o_i (0) (o_istore 5 (sk_B (g, d, ck, sk, xX11_best, Q) 17)))))))))))
set_option maxRecDepth 20000 in
theorem tX11_best_0 {g : sk_G} {d ck sk : Nat} {Q : sk_P} : sk_S (g, d, ck, sk, xX11_best, Q) 0 (kX11_best_0 g d ck sk Q) := s_aload_n dX11_best_0 rfl (s_getf (ci := 11) (j := 3) (C := RX11) (T := TX11) (N := 17) dX11_best_1 rfl (by decide) (by decide) qf_X11_29 (s_iload_n dX11_best_4 rfl (s_invT (X := xX8_writingAt) (ci := 8) (T := TX8) (N := 7) (K := (fun Q => kX8_writingAt_0 g (d - 1) 0 0 Q)) (fun _ => tX8_writingAt_0) rfl dX11_best_5 m_X8_writingAt rfl (by decide) qm_X11_171 qi_X8_writingAt qe_X8_writingAt (s_astore_n dX11_best_8 rfl (by decide : 2 < 7) (s_iconst dX11_best_9 (s_istore_n dX11_best_10 rfl (by decide : 3 < 7) (s_iconst dX11_best_11 (s_istore dX11_best_12 (by decide : 4 < 7) (s_iconst dX11_best_14 (s_istore dX11_best_15 (by decide : 5 < 7) (sk_id)))))))))))
set_option maxRecDepth 20000 in
def kX11_best_17 (g : sk_G) (d ck sk : Nat) (Q : sk_P) : sk_K := o_aload 2 (o_ifnull (o_iload 4 (o_iret (g, d, ck, sk, xX11_best, Q))) (o_iload 5 (o_aload 0 (o_getf 11 1 (o_invT (g, d, ck, sk, xX11_best, Q) 1 0 7 (fun Q => kX7_spots_0 g (d - 1) 0 0 Q) (o_icge (o_iload 4 (o_iret (g, d, ck, sk, xX11_best, Q))) (o_aload 0 (o_aload 2 (o_iload 5 (o_invB (g, d, ck, sk, xX11_best, Q) xX11_standing 2 11 0 0 (o_istore 6 (o_iload 6 (o_iload 3 (o_icle (o_iinc 5 (1) (sk_B (g, d, ck, sk, xX11_best, Q) 17)) (o_iload 6 (o_istore 3 (o_iload 5 (o_istore 4 (o_iinc 5 (1) (sk_B (g, d, ck, sk, xX11_best, Q) 17))))))))))))))))))))
set_option maxRecDepth 20000 in
theorem tX11_best_17 {g : sk_G} {d ck sk : Nat} {Q : sk_P} : sk_S (g, d, ck, sk, xX11_best, Q) 17 (kX11_best_17 g d ck sk Q) := s_aload_n dX11_best_17 rfl (s_ifnull (tgt := 61) dX11_best_18 (by decide) (s_iload dX11_best_61 (s_iret dX11_best_63 rfl)) (s_iload dX11_best_21 (s_aload_n dX11_best_23 rfl (s_getf (ci := 11) (j := 1) (C := RX11) (T := TX11) (N := 17) dX11_best_24 rfl (by decide) (by decide) qf_X11_19 (s_invT (X := xX7_spots) (ci := 7) (T := TX7) (N := 4) (K := (fun Q => kX7_spots_0 g (d - 1) 0 0 Q)) (fun _ => tX7_spots_0) rfl dX11_best_27 m_X7_spots rfl (by decide) qm_X11_275 qi_X7_spots qe_X7_spots (s_icge (tgt := 61) dX11_best_30 (by decide) (s_iload dX11_best_61 (s_iret dX11_best_63 rfl)) (s_aload_n dX11_best_33 rfl (s_aload_n dX11_best_34 rfl (s_iload dX11_best_35 (s_invB (w' := (g, d, ck, sk, xX11_best, Q)) (ci := 11) (ck := 0) (sk := 0) (T := TX11) (N := 17) dX11_best_37 m_X11_standing rfl (by decide) qm_X11_278 qi_X11_standing qe_X11_standing rfl (s_istore dX11_best_40 (by decide : 6 < 7) (s_iload dX11_best_42 (s_iload_n dX11_best_44 rfl (s_icle (tgt := 55) dX11_best_45 (by decide) (s_iinc dX11_best_55 (by decide : 5 < 7) (s_goto (tgt := 17) dX11_best_58 (by decide) (sk_id))) (s_iload dX11_best_48 (s_istore_n dX11_best_50 rfl (by decide : 3 < 7) (s_iload dX11_best_51 (s_istore dX11_best_53 (by decide : 4 < 7) (s_iinc dX11_best_55 (by decide : 5 < 7) (s_goto (tgt := 17) dX11_best_58 (by decide) (sk_id)))))))))))))))))))))
theorem dX11_over_0 : decode cX11_over 0 = .ok (.aload_n 0, 1) := by decide +kernel
theorem dX11_over_1 : decode cX11_over 1 = .ok (.getfield 19, 3) := by decide +kernel
theorem dX11_over_4 : decode cX11_over 4 = .ok (.iload_n 1, 1) := by decide +kernel
theorem dX11_over_5 : decode cX11_over 5 = .ok (.invokevirtual 151, 3) := by decide +kernel
theorem dX11_over_8 : decode cX11_over 8 = .ok (.ifCond .eq 26, 3) := by decide +kernel
theorem dX11_over_11 : decode cX11_over 11 = .ok (.aload_n 0, 1) := by decide +kernel
theorem dX11_over_12 : decode cX11_over 12 = .ok (.getfield 19, 3) := by decide +kernel
theorem dX11_over_15 : decode cX11_over 15 = .ok (.iload_n 2, 1) := by decide +kernel
theorem dX11_over_16 : decode cX11_over 16 = .ok (.invokevirtual 151, 3) := by decide +kernel
theorem dX11_over_19 : decode cX11_over 19 = .ok (.ifCond .eq 15, 3) := by decide +kernel
theorem dX11_over_22 : decode cX11_over 22 = .ok (.aload_n 0, 1) := by decide +kernel
theorem dX11_over_23 : decode cX11_over 23 = .ok (.getfield 36, 3) := by decide +kernel
theorem dX11_over_26 : decode cX11_over 26 = .ok (.iload_n 1, 1) := by decide +kernel
theorem dX11_over_27 : decode cX11_over 27 = .ok (.iload_n 2, 1) := by decide +kernel
theorem dX11_over_28 : decode cX11_over 28 = .ok (.invokevirtual 282, 3) := by decide +kernel
theorem dX11_over_31 : decode cX11_over 31 = .ok (.goto 4, 3) := by decide +kernel
theorem dX11_over_34 : decode cX11_over 34 = .ok (.iconst (-1), 1) := by decide +kernel
theorem dX11_over_35 : decode cX11_over 35 = .ok (.ireturn, 1) := by decide +kernel
set_option maxRecDepth 20000 in
def kX11_over_0 (g : sk_G) (d ck sk : Nat) (Q : sk_P) : sk_K := o_aload 0 (o_getf 11 1 (o_iload 1 (o_invT (g, d, ck, sk, xX11_over, Q) 2 1 7 (fun Q => kX7_hasHand_0 g (d - 1) 0 0 Q) (o_ifeq (o_i (-1) (o_iret (g, d, ck, sk, xX11_over, Q))) (o_aload 0 (o_getf 11 1 (o_iload 2 (o_invT (g, d, ck, sk, xX11_over, Q) 2 1 7 (fun Q => kX7_hasHand_0 g (d - 1) 0 0 Q) (o_ifeq (o_i (-1) (o_iret (g, d, ck, sk, xX11_over, Q))) (o_aload 0 (o_getf 11 4 (o_iload 1 (o_iload 2 (o_invB (g, d, ck, sk, xX11_over, Q) xX5_pairs 2 5 0 0 (o_iret (g, d, ck, sk, xX11_over, Q))))))))))))))))
set_option maxRecDepth 20000 in
theorem tX11_over_0 {g : sk_G} {d ck sk : Nat} {Q : sk_P} : sk_S (g, d, ck, sk, xX11_over, Q) 0 (kX11_over_0 g d ck sk Q) := s_aload_n dX11_over_0 rfl (s_getf (ci := 11) (j := 1) (C := RX11) (T := TX11) (N := 17) dX11_over_1 rfl (by decide) (by decide) qf_X11_19 (s_iload_n dX11_over_4 rfl (s_invT (X := xX7_hasHand) (ci := 7) (T := TX7) (N := 4) (K := (fun Q => kX7_hasHand_0 g (d - 1) 0 0 Q)) (fun _ => tX7_hasHand_0) rfl dX11_over_5 m_X7_hasHand rfl (by decide) qm_X11_151 qi_X7_hasHand qe_X7_hasHand (s_ifeq (tgt := 34) dX11_over_8 (by decide) (s_iconst dX11_over_34 (s_iret dX11_over_35 rfl)) (s_aload_n dX11_over_11 rfl (s_getf (ci := 11) (j := 1) (C := RX11) (T := TX11) (N := 17) dX11_over_12 rfl (by decide) (by decide) qf_X11_19 (s_iload_n dX11_over_15 rfl (s_invT (X := xX7_hasHand) (ci := 7) (T := TX7) (N := 4) (K := (fun Q => kX7_hasHand_0 g (d - 1) 0 0 Q)) (fun _ => tX7_hasHand_0) rfl dX11_over_16 m_X7_hasHand rfl (by decide) qm_X11_151 qi_X7_hasHand qe_X7_hasHand (s_ifeq (tgt := 34) dX11_over_19 (by decide) (s_iconst dX11_over_34 (s_iret dX11_over_35 rfl)) (s_aload_n dX11_over_22 rfl (s_getf (ci := 11) (j := 4) (C := RX11) (T := TX11) (N := 17) dX11_over_23 rfl (by decide) (by decide) qf_X11_36 (s_iload_n dX11_over_26 rfl (s_iload_n dX11_over_27 rfl (s_invB (w' := (g, d, ck, sk, xX11_over, Q)) (ci := 5) (ck := 0) (sk := 0) (T := TX5) (N := 6) dX11_over_28 m_X5_pairs rfl (by decide) qm_X11_282 qi_X5_pairs qe_X5_pairs rfl (s_goto (tgt := 35) dX11_over_31 (by decide) (s_iret dX11_over_35 rfl))))))))))))))))
theorem dX11_order_0 : decode cX11_order 0 = .ok (.aload_n 0, 1) := by decide +kernel
theorem dX11_order_1 : decode cX11_order 1 = .ok (.getfield 19, 3) := by decide +kernel
theorem dX11_order_4 : decode cX11_order 4 = .ok (.invokevirtual 141, 3) := by decide +kernel
theorem dX11_order_7 : decode cX11_order 7 = .ok (.ifCond .eq 12, 3) := by decide +kernel
theorem dX11_order_10 : decode cX11_order 10 = .ok (.iload_n 1, 1) := by decide +kernel
theorem dX11_order_11 : decode cX11_order 11 = .ok (.ifCond .lt 8, 3) := by decide +kernel
theorem dX11_order_14 : decode cX11_order 14 = .ok (.iload_n 1, 1) := by decide +kernel
theorem dX11_order_15 : decode cX11_order 15 = .ok (.iconst 1, 1) := by decide +kernel
theorem dX11_order_16 : decode cX11_order 16 = .ok (.if_icmp .le 5, 3) := by decide +kernel
theorem dX11_order_19 : decode cX11_order 19 = .ok (.iconst (-1), 1) := by decide +kernel
theorem dX11_order_20 : decode cX11_order 20 = .ok (.ireturn, 1) := by decide +kernel
theorem dX11_order_21 : decode cX11_order 21 = .ok (.iconst 0, 1) := by decide +kernel
theorem dX11_order_22 : decode cX11_order 22 = .ok (.istore_n 2, 1) := by decide +kernel
theorem dX11_order_23 : decode cX11_order 23 = .ok (.iload_n 2, 1) := by decide +kernel
theorem dX11_order_24 : decode cX11_order 24 = .ok (.aload_n 0, 1) := by decide +kernel
theorem dX11_order_25 : decode cX11_order 25 = .ok (.getfield 19, 3) := by decide +kernel
theorem dX11_order_28 : decode cX11_order 28 = .ok (.getfield 285, 3) := by decide +kernel
theorem dX11_order_31 : decode cX11_order 31 = .ok (.if_icmp .ge 47, 3) := by decide +kernel
theorem dX11_order_34 : decode cX11_order 34 = .ok (.iconst 0, 1) := by decide +kernel
theorem dX11_order_35 : decode cX11_order 35 = .ok (.istore_n 3, 1) := by decide +kernel
theorem dX11_order_36 : decode cX11_order 36 = .ok (.iload_n 3, 1) := by decide +kernel
theorem dX11_order_37 : decode cX11_order 37 = .ok (.aload_n 0, 1) := by decide +kernel
theorem dX11_order_38 : decode cX11_order 38 = .ok (.getfield 19, 3) := by decide +kernel
theorem dX11_order_41 : decode cX11_order 41 = .ok (.getfield 285, 3) := by decide +kernel
theorem dX11_order_44 : decode cX11_order 44 = .ok (.if_icmp .ge 28, 3) := by decide +kernel
theorem dX11_order_47 : decode cX11_order 47 = .ok (.aload_n 0, 1) := by decide +kernel
theorem dX11_order_48 : decode cX11_order 48 = .ok (.getfield 74, 3) := by decide +kernel
theorem dX11_order_51 : decode cX11_order 51 = .ok (.iload_n 2, 1) := by decide +kernel
theorem dX11_order_52 : decode cX11_order 52 = .ok (.iload_n 3, 1) := by decide +kernel
theorem dX11_order_53 : decode cX11_order 53 = .ok (.aload_n 0, 1) := by decide +kernel
theorem dX11_order_54 : decode cX11_order 54 = .ok (.getfield 36, 3) := by decide +kernel
theorem dX11_order_57 : decode cX11_order 57 = .ok (.iload_n 2, 1) := by decide +kernel
theorem dX11_order_58 : decode cX11_order 58 = .ok (.iload_n 3, 1) := by decide +kernel
theorem dX11_order_59 : decode cX11_order 59 = .ok (.invokevirtual 282, 3) := by decide +kernel
theorem dX11_order_62 : decode cX11_order 62 = .ok (.ineg, 1) := by decide +kernel
theorem dX11_order_63 : decode cX11_order 63 = .ok (.invokevirtual 288, 3) := by decide +kernel
theorem dX11_order_66 : decode cX11_order 66 = .ok (.iinc 3 1, 3) := by decide +kernel
theorem dX11_order_69 : decode cX11_order 69 = .ok (.goto (-33), 3) := by decide +kernel
theorem dX11_order_72 : decode cX11_order 72 = .ok (.iinc 2 1, 3) := by decide +kernel
theorem dX11_order_75 : decode cX11_order 75 = .ok (.goto (-52), 3) := by decide +kernel
theorem dX11_order_78 : decode cX11_order 78 = .ok (.aload_n 0, 1) := by decide +kernel
theorem dX11_order_79 : decode cX11_order 79 = .ok (.getfield 74, 3) := by decide +kernel
theorem dX11_order_82 : decode cX11_order 82 = .ok (.aload_n 0, 1) := by decide +kernel
theorem dX11_order_83 : decode cX11_order 83 = .ok (.getfield 19, 3) := by decide +kernel
theorem dX11_order_86 : decode cX11_order 86 = .ok (.getfield 285, 3) := by decide +kernel
theorem dX11_order_89 : decode cX11_order 89 = .ok (.iconst 0, 1) := by decide +kernel
theorem dX11_order_90 : decode cX11_order 90 = .ok (.invokevirtual 292, 3) := by decide +kernel
theorem dX11_order_93 : decode cX11_order 93 = .ok (.iload_n 1, 1) := by decide +kernel
theorem dX11_order_94 : decode cX11_order 94 = .ok (.ifCond .ne 13, 3) := by decide +kernel
theorem dX11_order_97 : decode cX11_order 97 = .ok (.aload_n 0, 1) := by decide +kernel
theorem dX11_order_98 : decode cX11_order 98 = .ok (.getfield 74, 3) := by decide +kernel
theorem dX11_order_101 : decode cX11_order 101 = .ok (.getfield 296, 3) := by decide +kernel
theorem dX11_order_104 : decode cX11_order 104 = .ok (.goto 11, 3) := by decide +kernel
theorem dX11_order_107 : decode cX11_order 107 = .ok (.aload_n 0, 1) := by decide +kernel
theorem dX11_order_108 : decode cX11_order 108 = .ok (.getfield 74, 3) := by decide +kernel
theorem dX11_order_111 : decode cX11_order 111 = .ok (.getfield 299, 3) := by decide +kernel
theorem dX11_order_114 : decode cX11_order 114 = .ok (.ineg, 1) := by decide +kernel
theorem dX11_order_115 : decode cX11_order 115 = .ok (.ireturn, 1) := by decide +kernel
set_option maxRecDepth 20000 in
def kX11_order_0 (g : sk_G) (d ck sk : Nat) (Q : sk_P) : sk_K := o_aload 0 (o_getf 11 1 (o_invT (g, d, ck, sk, xX11_order, Q) 1 0 7 (fun Q => kX7_isSkin_0 g (d - 1) 0 0 Q) (o_ifeq (o_i (-1) (o_iret (g, d, ck, sk, xX11_order, Q))) (o_iload 1 (o_iflt (o_i (-1) (o_iret (g, d, ck, sk, xX11_order, Q))) (o_iload 1 (o_i (1) (o_icle (o_i (0) (o_istore 2 (sk_B (g, d, ck, sk, xX11_order, Q) 23))) (o_i (-1) (o_iret (g, d, ck, sk, xX11_order, Q)))))))))))
set_option maxRecDepth 20000 in
theorem tX11_order_0 {g : sk_G} {d ck sk : Nat} {Q : sk_P} : sk_S (g, d, ck, sk, xX11_order, Q) 0 (kX11_order_0 g d ck sk Q) := s_aload_n dX11_order_0 rfl (s_getf (ci := 11) (j := 1) (C := RX11) (T := TX11) (N := 17) dX11_order_1 rfl (by decide) (by decide) qf_X11_19 (s_invT (X := xX7_isSkin) (ci := 7) (T := TX7) (N := 4) (K := (fun Q => kX7_isSkin_0 g (d - 1) 0 0 Q)) (fun _ => tX7_isSkin_0) rfl dX11_order_4 m_X7_isSkin rfl (by decide) qm_X11_141 qi_X7_isSkin qe_X7_isSkin (s_ifeq (tgt := 19) dX11_order_7 (by decide) (s_iconst dX11_order_19 (s_iret dX11_order_20 rfl)) (s_iload_n dX11_order_10 rfl (s_iflt (tgt := 19) dX11_order_11 (by decide) (s_iconst dX11_order_19 (s_iret dX11_order_20 rfl)) (s_iload_n dX11_order_14 rfl (s_iconst dX11_order_15 (s_icle (tgt := 21) dX11_order_16 (by decide) (s_iconst dX11_order_21 (s_istore_n dX11_order_22 rfl (by decide : 2 < 4) (sk_id))) (s_iconst dX11_order_19 (s_iret dX11_order_20 rfl))))))))))
set_option maxRecDepth 20000 in
def kX11_order_23 (g : sk_G) (d ck sk : Nat) (Q : sk_P) : sk_K := o_iload 2 (o_aload 0 (o_getf 11 1 (o_getf 7 2 (o_icge (o_aload 0 (o_getf 11 10 (o_aload 0 (o_getf 11 1 (o_getf 7 2 (o_i (0) (o_invB (g, d, ck, sk, xX11_order, Q) xX6_seek 2 6 0 0 (o_iload 1 (o_ifne (o_aload 0 (o_getf 11 10 (o_getf 6 3 (o_ineg (o_iret (g, d, ck, sk, xX11_order, Q)))))) (o_aload 0 (o_getf 11 10 (o_getf 6 2 (o_iret (g, d, ck, sk, xX11_order, Q)))))))))))))) (o_i (0) (o_istore 3 (sk_B (g, d, ck, sk, xX11_order, Q) 36)))))))
set_option maxRecDepth 20000 in
theorem tX11_order_23 {g : sk_G} {d ck sk : Nat} {Q : sk_P} : sk_S (g, d, ck, sk, xX11_order, Q) 23 (kX11_order_23 g d ck sk Q) := s_iload_n dX11_order_23 rfl (s_aload_n dX11_order_24 rfl (s_getf (ci := 11) (j := 1) (C := RX11) (T := TX11) (N := 17) dX11_order_25 rfl (by decide) (by decide) qf_X11_19 (s_getfN (ci := 7) (j := 2) (C := RX7) (T := TX7) (N := 4) dX11_order_28 rfl (by decide) (by decide) qn_X11_285 (s_icge (tgt := 78) dX11_order_31 (by decide) (s_aload_n dX11_order_78 rfl (s_getf (ci := 11) (j := 10) (C := RX11) (T := TX11) (N := 17) dX11_order_79 rfl (by decide) (by decide) qf_X11_74 (s_aload_n dX11_order_82 rfl (s_getf (ci := 11) (j := 1) (C := RX11) (T := TX11) (N := 17) dX11_order_83 rfl (by decide) (by decide) qf_X11_19 (s_getfN (ci := 7) (j := 2) (C := RX7) (T := TX7) (N := 4) dX11_order_86 rfl (by decide) (by decide) qn_X11_285 (s_iconst dX11_order_89 (s_invB (w' := (g, d, ck, sk, xX11_order, Q)) (ci := 6) (ck := 0) (sk := 0) (T := TX6) (N := 4) dX11_order_90 m_X6_seek rfl (by decide) qm_X11_292 qi_X6_seek qe_X6_seek rfl (s_iload_n dX11_order_93 rfl (s_ifne (tgt := 107) dX11_order_94 (by decide) (s_aload_n dX11_order_107 rfl (s_getf (ci := 11) (j := 10) (C := RX11) (T := TX11) (N := 17) dX11_order_108 rfl (by decide) (by decide) qf_X11_74 (s_getfN (ci := 6) (j := 3) (C := RX6) (T := TX6) (N := 4) dX11_order_111 rfl (by decide) (by decide) qn_X11_299 (s_ineg dX11_order_114 (s_iret dX11_order_115 rfl))))) (s_aload_n dX11_order_97 rfl (s_getf (ci := 11) (j := 10) (C := RX11) (T := TX11) (N := 17) dX11_order_98 rfl (by decide) (by decide) qf_X11_74 (s_getfN (ci := 6) (j := 2) (C := RX6) (T := TX6) (N := 4) dX11_order_101 rfl (by decide) (by decide) qn_X11_296 (s_goto (tgt := 115) dX11_order_104 (by decide) (s_iret dX11_order_115 rfl)))))))))))))) (s_iconst dX11_order_34 (s_istore_n dX11_order_35 rfl (by decide : 3 < 4) (sk_id)))))))
set_option maxRecDepth 20000 in
def kX11_order_36 (g : sk_G) (d ck sk : Nat) (Q : sk_P) : sk_K := o_iload 3 (o_aload 0 (o_getf 11 1 (o_getf 7 2 (o_icge (o_iinc 2 (1) (sk_B (g, d, ck, sk, xX11_order, Q) 23)) (o_aload 0 (o_getf 11 10 (o_iload 2 (o_iload 3 (o_aload 0 (o_getf 11 4 (o_iload 2 (o_iload 3 (o_invB (g, d, ck, sk, xX11_order, Q) xX5_pairs 2 5 0 0 (o_ineg (o_invT (g, d, ck, sk, xX11_order, Q) 4 3 6 (fun Q => kX6_judge_0 g (d - 1) 0 0 Q) (o_iinc 3 (1) (sk_B (g, d, ck, sk, xX11_order, Q) 36)))))))))))))))))
set_option maxRecDepth 20000 in
theorem tX11_order_36 {g : sk_G} {d ck sk : Nat} {Q : sk_P} : sk_S (g, d, ck, sk, xX11_order, Q) 36 (kX11_order_36 g d ck sk Q) := s_iload_n dX11_order_36 rfl (s_aload_n dX11_order_37 rfl (s_getf (ci := 11) (j := 1) (C := RX11) (T := TX11) (N := 17) dX11_order_38 rfl (by decide) (by decide) qf_X11_19 (s_getfN (ci := 7) (j := 2) (C := RX7) (T := TX7) (N := 4) dX11_order_41 rfl (by decide) (by decide) qn_X11_285 (s_icge (tgt := 72) dX11_order_44 (by decide) (s_iinc dX11_order_72 (by decide : 2 < 4) (s_goto (tgt := 23) dX11_order_75 (by decide) (sk_id))) (s_aload_n dX11_order_47 rfl (s_getf (ci := 11) (j := 10) (C := RX11) (T := TX11) (N := 17) dX11_order_48 rfl (by decide) (by decide) qf_X11_74 (s_iload_n dX11_order_51 rfl (s_iload_n dX11_order_52 rfl (s_aload_n dX11_order_53 rfl (s_getf (ci := 11) (j := 4) (C := RX11) (T := TX11) (N := 17) dX11_order_54 rfl (by decide) (by decide) qf_X11_36 (s_iload_n dX11_order_57 rfl (s_iload_n dX11_order_58 rfl (s_invB (w' := (g, d, ck, sk, xX11_order, Q)) (ci := 5) (ck := 0) (sk := 0) (T := TX5) (N := 6) dX11_order_59 m_X5_pairs rfl (by decide) qm_X11_282 qi_X5_pairs qe_X5_pairs rfl (s_ineg dX11_order_62 (s_invT (X := xX6_judge) (ci := 6) (T := TX6) (N := 4) (K := (fun Q => kX6_judge_0 g (d - 1) 0 0 Q)) (fun _ => tX6_judge_0) rfl dX11_order_63 m_X6_judge rfl (by decide) qm_X11_288 qi_X6_judge qe_X6_judge (s_iinc dX11_order_66 (by decide : 3 < 4) (s_goto (tgt := 36) dX11_order_69 (by decide) (sk_id))))))))))))))))))
theorem dX11_lost_0 : decode cX11_lost 0 = .ok (.aload_n 0, 1) := by decide +kernel
theorem dX11_lost_1 : decode cX11_lost 1 = .ok (.getfield 29, 3) := by decide +kernel
theorem dX11_lost_4 : decode cX11_lost 4 = .ok (.iload_n 1, 1) := by decide +kernel
theorem dX11_lost_5 : decode cX11_lost 5 = .ok (.invokevirtual 171, 3) := by decide +kernel
theorem dX11_lost_8 : decode cX11_lost 8 = .ok (.astore 4, 2) := by decide +kernel
theorem dX11_lost_10 : decode cX11_lost 10 = .ok (.iload_n 3, 1) := by decide +kernel
theorem dX11_lost_11 : decode cX11_lost 11 = .ok (.iconst 1, 1) := by decide +kernel
theorem dX11_lost_12 : decode cX11_lost 12 = .ok (.if_icmp .lt 22, 3) := by decide +kernel
theorem dX11_lost_15 : decode cX11_lost 15 = .ok (.iload_n 3, 1) := by decide +kernel
theorem dX11_lost_16 : decode cX11_lost 16 = .ok (.bipush 16, 2) := by decide +kernel
theorem dX11_lost_18 : decode cX11_lost 18 = .ok (.if_icmp .gt 16, 3) := by decide +kernel
theorem dX11_lost_21 : decode cX11_lost 21 = .ok (.aload_n 0, 1) := by decide +kernel
theorem dX11_lost_22 : decode cX11_lost 22 = .ok (.getfield 19, 3) := by decide +kernel
theorem dX11_lost_25 : decode cX11_lost 25 = .ok (.aload 4, 2) := by decide +kernel
theorem dX11_lost_27 : decode cX11_lost 27 = .ok (.iload_n 2, 1) := by decide +kernel
theorem dX11_lost_28 : decode cX11_lost 28 = .ok (.invokevirtual 202, 3) := by decide +kernel
theorem dX11_lost_31 : decode cX11_lost 31 = .ok (.ifCond .ne 5, 3) := by decide +kernel
theorem dX11_lost_34 : decode cX11_lost 34 = .ok (.iconst (-1), 1) := by decide +kernel
theorem dX11_lost_35 : decode cX11_lost 35 = .ok (.ireturn, 1) := by decide +kernel
theorem dX11_lost_36 : decode cX11_lost 36 = .ok (.aload_n 0, 1) := by decide +kernel
theorem dX11_lost_37 : decode cX11_lost 37 = .ok (.getfield 67, 3) := by decide +kernel
theorem dX11_lost_40 : decode cX11_lost 40 = .ok (.invokevirtual 302, 3) := by decide +kernel
theorem dX11_lost_43 : decode cX11_lost 43 = .ok (.iconst 0, 1) := by decide +kernel
theorem dX11_lost_44 : decode cX11_lost 44 = .ok (.istore 5, 2) := by decide +kernel
theorem dX11_lost_46 : decode cX11_lost 46 = .ok (.iload 5, 2) := by decide +kernel
theorem dX11_lost_48 : decode cX11_lost 48 = .ok (.aload 4, 2) := by decide +kernel
theorem dX11_lost_50 : decode cX11_lost 50 = .ok (.getfield 305, 3) := by decide +kernel
theorem dX11_lost_53 : decode cX11_lost 53 = .ok (.if_icmp .ge 86, 3) := by decide +kernel
theorem dX11_lost_56 : decode cX11_lost 56 = .ok (.aload_n 0, 1) := by decide +kernel
theorem dX11_lost_57 : decode cX11_lost 57 = .ok (.getfield 19, 3) := by decide +kernel
theorem dX11_lost_60 : decode cX11_lost 60 = .ok (.aload 4, 2) := by decide +kernel
theorem dX11_lost_62 : decode cX11_lost 62 = .ok (.iload 5, 2) := by decide +kernel
theorem dX11_lost_64 : decode cX11_lost 64 = .ok (.iload_n 2, 1) := by decide +kernel
theorem dX11_lost_65 : decode cX11_lost 65 = .ok (.invokevirtual 308, 3) := by decide +kernel
theorem dX11_lost_68 : decode cX11_lost 68 = .ok (.istore 6, 2) := by decide +kernel
theorem dX11_lost_70 : decode cX11_lost 70 = .ok (.aload 4, 2) := by decide +kernel
theorem dX11_lost_72 : decode cX11_lost 72 = .ok (.iload 5, 2) := by decide +kernel
theorem dX11_lost_74 : decode cX11_lost 74 = .ok (.invokevirtual 312, 3) := by decide +kernel
theorem dX11_lost_77 : decode cX11_lost 77 = .ok (.ifCond .eq 30, 3) := by decide +kernel
theorem dX11_lost_80 : decode cX11_lost 80 = .ok (.aload_n 0, 1) := by decide +kernel
theorem dX11_lost_81 : decode cX11_lost 81 = .ok (.getfield 36, 3) := by decide +kernel
theorem dX11_lost_84 : decode cX11_lost 84 = .ok (.iload 6, 2) := by decide +kernel
theorem dX11_lost_86 : decode cX11_lost 86 = .ok (.aload 4, 2) := by decide +kernel
theorem dX11_lost_88 : decode cX11_lost 88 = .ok (.getfield 315, 3) := by decide +kernel
theorem dX11_lost_91 : decode cX11_lost 91 = .ok (.iload 5, 2) := by decide +kernel
theorem dX11_lost_93 : decode cX11_lost 93 = .ok (.iaload, 1) := by decide +kernel
theorem dX11_lost_94 : decode cX11_lost 94 = .ok (.aload_n 0, 1) := by decide +kernel
theorem dX11_lost_95 : decode cX11_lost 95 = .ok (.getfield 19, 3) := by decide +kernel
theorem dX11_lost_98 : decode cX11_lost 98 = .ok (.invokevirtual 262, 3) := by decide +kernel
theorem dX11_lost_101 : decode cX11_lost 101 = .ok (.invokevirtual 318, 3) := by decide +kernel
theorem dX11_lost_104 : decode cX11_lost 104 = .ok (.goto 4, 3) := by decide +kernel
theorem dX11_lost_107 : decode cX11_lost 107 = .ok (.iconst 0, 1) := by decide +kernel
theorem dX11_lost_108 : decode cX11_lost 108 = .ok (.istore 7, 2) := by decide +kernel
theorem dX11_lost_110 : decode cX11_lost 110 = .ok (.iload 7, 2) := by decide +kernel
theorem dX11_lost_112 : decode cX11_lost 112 = .ok (.ifCond .le 21, 3) := by decide +kernel
theorem dX11_lost_115 : decode cX11_lost 115 = .ok (.aload_n 0, 1) := by decide +kernel
theorem dX11_lost_116 : decode cX11_lost 116 = .ok (.getfield 67, 3) := by decide +kernel
theorem dX11_lost_119 : decode cX11_lost 119 = .ok (.aload_n 0, 1) := by decide +kernel
theorem dX11_lost_120 : decode cX11_lost 120 = .ok (.getfield 19, 3) := by decide +kernel
theorem dX11_lost_123 : decode cX11_lost 123 = .ok (.iload 6, 2) := by decide +kernel
theorem dX11_lost_125 : decode cX11_lost 125 = .ok (.invokevirtual 322, 3) := by decide +kernel
theorem dX11_lost_128 : decode cX11_lost 128 = .ok (.iload 7, 2) := by decide +kernel
theorem dX11_lost_130 : decode cX11_lost 130 = .ok (.invokevirtual 325, 3) := by decide +kernel
theorem dX11_lost_133 : decode cX11_lost 133 = .ok (.iinc 5 1, 3) := by decide +kernel
theorem dX11_lost_136 : decode cX11_lost 136 = .ok (.goto (-90), 3) := by decide +kernel
theorem dX11_lost_139 : decode cX11_lost 139 = .ok (.aload_n 0, 1) := by decide +kernel
theorem dX11_lost_140 : decode cX11_lost 140 = .ok (.getfield 67, 3) := by decide +kernel
theorem dX11_lost_143 : decode cX11_lost 143 = .ok (.aload_n 0, 1) := by decide +kernel
theorem dX11_lost_144 : decode cX11_lost 144 = .ok (.getfield 67, 3) := by decide +kernel
theorem dX11_lost_147 : decode cX11_lost 147 = .ok (.getfield 329, 3) := by decide +kernel
theorem dX11_lost_150 : decode cX11_lost 150 = .ok (.iload_n 3, 1) := by decide +kernel
theorem dX11_lost_151 : decode cX11_lost 151 = .ok (.isub, 1) := by decide +kernel
theorem dX11_lost_152 : decode cX11_lost 152 = .ok (.iconst 1, 1) := by decide +kernel
theorem dX11_lost_153 : decode cX11_lost 153 = .ok (.iadd, 1) := by decide +kernel
theorem dX11_lost_154 : decode cX11_lost 154 = .ok (.invokevirtual 330, 3) := by decide +kernel
theorem dX11_lost_157 : decode cX11_lost 157 = .ok (.ireturn, 1) := by decide +kernel
set_option maxRecDepth 20000 in
def kX11_lost_0 (g : sk_G) (d ck sk : Nat) (Q : sk_P) : sk_K := o_aload 0 (o_getf 11 3 (o_iload 1 (o_invT (g, d, ck, sk, xX11_lost, Q) 2 1 8 (fun Q => kX8_writingAt_0 g (d - 1) 0 0 Q) (o_astore 4 (o_iload 3 (o_i (1) (o_iclt (o_i (-1) (o_iret (g, d, ck, sk, xX11_lost, Q))) (o_iload 3 (o_i (16) (o_icgt (o_i (-1) (o_iret (g, d, ck, sk, xX11_lost, Q))) (o_aload 0 (o_getf 11 1 (o_aload 4 (o_iload 2 (o_invB (g, d, ck, sk, xX11_lost, Q) xX7_does 2 7 0 0 (o_ifne (o_aload 0 (o_getf 11 9 (o_invT (g, d, ck, sk, xX11_lost, Q) 1 0 3 (fun Q => kX3_clear_0 g (d - 1) 0 0 Q) (o_i (0) (o_istore 5 (sk_B (g, d, ck, sk, xX11_lost, Q) 46)))))) (o_i (-1) (o_iret (g, d, ck, sk, xX11_lost, Q)))))))))))))))))))
set_option maxRecDepth 20000 in
theorem tX11_lost_0 {g : sk_G} {d ck sk : Nat} {Q : sk_P} : sk_S (g, d, ck, sk, xX11_lost, Q) 0 (kX11_lost_0 g d ck sk Q) := s_aload_n dX11_lost_0 rfl (s_getf (ci := 11) (j := 3) (C := RX11) (T := TX11) (N := 17) dX11_lost_1 rfl (by decide) (by decide) qf_X11_29 (s_iload_n dX11_lost_4 rfl (s_invT (X := xX8_writingAt) (ci := 8) (T := TX8) (N := 7) (K := (fun Q => kX8_writingAt_0 g (d - 1) 0 0 Q)) (fun _ => tX8_writingAt_0) rfl dX11_lost_5 m_X8_writingAt rfl (by decide) qm_X11_171 qi_X8_writingAt qe_X8_writingAt (s_astore dX11_lost_8 (by decide : 4 < 8) (s_iload_n dX11_lost_10 rfl (s_iconst dX11_lost_11 (s_iclt (tgt := 34) dX11_lost_12 (by decide) (s_iconst dX11_lost_34 (s_iret dX11_lost_35 rfl)) (s_iload_n dX11_lost_15 rfl (s_bipush dX11_lost_16 rfl (s_icgt (tgt := 34) dX11_lost_18 (by decide) (s_iconst dX11_lost_34 (s_iret dX11_lost_35 rfl)) (s_aload_n dX11_lost_21 rfl (s_getf (ci := 11) (j := 1) (C := RX11) (T := TX11) (N := 17) dX11_lost_22 rfl (by decide) (by decide) qf_X11_19 (s_aload dX11_lost_25 (s_iload_n dX11_lost_27 rfl (s_invB (w' := (g, d, ck, sk, xX11_lost, Q)) (ci := 7) (ck := 0) (sk := 0) (T := TX7) (N := 4) dX11_lost_28 m_X7_does rfl (by decide) qm_X11_202 qi_X7_does qe_X7_does rfl (s_ifne (tgt := 36) dX11_lost_31 (by decide) (s_aload_n dX11_lost_36 rfl (s_getf (ci := 11) (j := 9) (C := RX11) (T := TX11) (N := 17) dX11_lost_37 rfl (by decide) (by decide) qf_X11_67 (s_invT (X := xX3_clear) (ci := 3) (T := TX3) (N := 5) (K := (fun Q => kX3_clear_0 g (d - 1) 0 0 Q)) (fun _ => tX3_clear_0) rfl dX11_lost_40 m_X3_clear rfl (by decide) qm_X11_302 qi_X3_clear qe_X3_clear (s_iconst dX11_lost_43 (s_istore dX11_lost_44 (by decide : 5 < 8) (sk_id)))))) (s_iconst dX11_lost_34 (s_iret dX11_lost_35 rfl))))))))))))))))))
set_option maxRecDepth 20000 in
def kX11_lost_46 (g : sk_G) (d ck sk : Nat) (Q : sk_P) : sk_K := o_iload 5 (o_aload 4 (o_getf 10 5 (o_icge (o_aload 0 (o_getf 11 9 (o_aload 0 (o_getf 11 9 (o_getf 3 4 (o_iload 3 (o_isub (o_i (1) (o_iadd (o_invB (g, d, ck, sk, xX11_lost, Q) xX3_least 1 3 0 0 (o_iret (g, d, ck, sk, xX11_lost, Q)))))))))))) (o_aload 0 (o_getf 11 1 (o_aload 4 (o_iload 5 (o_iload 2 (o_invB (g, d, ck, sk, xX11_lost, Q) xX7_cellOf 3 7 0 0 (o_istore 6 (o_aload 4 (o_iload 5 (o_invT (g, d, ck, sk, xX11_lost, Q) 2 1 10 (fun Q => kX10_isLetter_0 g (d - 1) 0 0 Q) (o_ifeq (o_i (0) (sk_B (g, d, ck, sk, xX11_lost, Q) 108)) (o_aload 0 (o_getf 11 4 (o_iload 6 (o_aload 4 (o_getf 10 0 (o_iload 5 (o_iaload (o_aload 0 (o_getf 11 1 (o_invT (g, d, ck, sk, xX11_lost, Q) 1 0 7 (fun Q => kX7_legible_0 g (d - 1) 0 0 Q) (o_invB (g, d, ck, sk, xX11_lost, Q) xX5_hold 3 5 0 0 (sk_B (g, d, ck, sk, xX11_lost, Q) 108))))))))))))))))))))))))))
set_option maxRecDepth 20000 in
theorem tX11_lost_46 {g : sk_G} {d ck sk : Nat} {Q : sk_P} : sk_S (g, d, ck, sk, xX11_lost, Q) 46 (kX11_lost_46 g d ck sk Q) := s_iload dX11_lost_46 (s_aload dX11_lost_48 (s_getfN (ci := 10) (j := 5) (C := RX10) (T := TX10) (N := 9) dX11_lost_50 rfl (by decide) (by decide) qn_X11_305 (s_icge (tgt := 139) dX11_lost_53 (by decide) (s_aload_n dX11_lost_139 rfl (s_getf (ci := 11) (j := 9) (C := RX11) (T := TX11) (N := 17) dX11_lost_140 rfl (by decide) (by decide) qf_X11_67 (s_aload_n dX11_lost_143 rfl (s_getf (ci := 11) (j := 9) (C := RX11) (T := TX11) (N := 17) dX11_lost_144 rfl (by decide) (by decide) qf_X11_67 (s_getfN (ci := 3) (j := 4) (C := RX3) (T := TX3) (N := 5) dX11_lost_147 rfl (by decide) (by decide) qn_X11_329 (s_iload_n dX11_lost_150 rfl (s_isub dX11_lost_151 (s_iconst dX11_lost_152 (s_iadd dX11_lost_153 (s_invB (w' := (g, d, ck, sk, xX11_lost, Q)) (ci := 3) (ck := 0) (sk := 0) (T := TX3) (N := 5) dX11_lost_154 m_X3_least rfl (by decide) qm_X11_330 qi_X3_least qe_X3_least rfl (s_iret dX11_lost_157 rfl))))))))))) (s_aload_n dX11_lost_56 rfl (s_getf (ci := 11) (j := 1) (C := RX11) (T := TX11) (N := 17) dX11_lost_57 rfl (by decide) (by decide) qf_X11_19 (s_aload dX11_lost_60 (s_iload dX11_lost_62 (s_iload_n dX11_lost_64 rfl (s_invB (w' := (g, d, ck, sk, xX11_lost, Q)) (ci := 7) (ck := 0) (sk := 0) (T := TX7) (N := 4) dX11_lost_65 m_X7_cellOf rfl (by decide) qm_X11_308 qi_X7_cellOf qe_X7_cellOf rfl (s_istore dX11_lost_68 (by decide : 6 < 8) (s_aload dX11_lost_70 (s_iload dX11_lost_72 (s_invT (X := xX10_isLetter) (ci := 10) (T := TX10) (N := 9) (K := (fun Q => kX10_isLetter_0 g (d - 1) 0 0 Q)) (fun _ => tX10_isLetter_0) rfl dX11_lost_74 m_X10_isLetter rfl (by decide) qm_X11_312 qi_X10_isLetter qe_X10_isLetter (s_ifeq (tgt := 107) dX11_lost_77 (by decide) (s_iconst dX11_lost_107 (sk_id)) (s_aload_n dX11_lost_80 rfl (s_getf (ci := 11) (j := 4) (C := RX11) (T := TX11) (N := 17) dX11_lost_81 rfl (by decide) (by decide) qf_X11_36 (s_iload dX11_lost_84 (s_aload dX11_lost_86 (s_getfN (ci := 10) (j := 0) (C := RX10) (T := TX10) (N := 9) dX11_lost_88 rfl (by decide) (by decide) qn_X11_315 (s_iload dX11_lost_91 (s_iaload dX11_lost_93 (s_aload_n dX11_lost_94 rfl (s_getf (ci := 11) (j := 1) (C := RX11) (T := TX11) (N := 17) dX11_lost_95 rfl (by decide) (by decide) qf_X11_19 (s_invT (X := xX7_legible) (ci := 7) (T := TX7) (N := 4) (K := (fun Q => kX7_legible_0 g (d - 1) 0 0 Q)) (fun _ => tX7_legible_0) rfl dX11_lost_98 m_X7_legible rfl (by decide) qm_X11_262 qi_X7_legible qe_X7_legible (s_invB (w' := (g, d, ck, sk, xX11_lost, Q)) (ci := 5) (ck := 0) (sk := 0) (T := TX5) (N := 6) dX11_lost_101 m_X5_hold rfl (by decide) qm_X11_318 qi_X5_hold qe_X5_hold rfl (s_goto (tgt := 108) dX11_lost_104 (by decide) (sk_id)))))))))))))))))))))))))))
set_option maxRecDepth 20000 in
def kX11_lost_108 (g : sk_G) (d ck sk : Nat) (Q : sk_P) : sk_K := o_istore 7 (o_iload 7 (o_ifle (o_iinc 5 (1) (sk_B (g, d, ck, sk, xX11_lost, Q) 46)) (o_aload 0 (o_getf 11 9 (o_aload 0 (o_getf 11 1 (o_iload 6 (o_invT (g, d, ck, sk, xX11_lost, Q) 2 1 7 (fun Q => kX7_rowOf_0 g (d - 1) 0 0 Q) (o_iload 7 (o_invT (g, d, ck, sk, xX11_lost, Q) 3 2 3 (fun Q => kX3_add_0 g (d - 1) 0 0 Q) (o_iinc 5 (1) (sk_B (g, d, ck, sk, xX11_lost, Q) 46))))))))))))
set_option maxRecDepth 20000 in
theorem tX11_lost_108 {g : sk_G} {d ck sk : Nat} {Q : sk_P} : sk_S (g, d, ck, sk, xX11_lost, Q) 108 (kX11_lost_108 g d ck sk Q) := s_istore dX11_lost_108 (by decide : 7 < 8) (s_iload dX11_lost_110 (s_ifle (tgt := 133) dX11_lost_112 (by decide) (s_iinc dX11_lost_133 (by decide : 5 < 8) (s_goto (tgt := 46) dX11_lost_136 (by decide) (sk_id))) (s_aload_n dX11_lost_115 rfl (s_getf (ci := 11) (j := 9) (C := RX11) (T := TX11) (N := 17) dX11_lost_116 rfl (by decide) (by decide) qf_X11_67 (s_aload_n dX11_lost_119 rfl (s_getf (ci := 11) (j := 1) (C := RX11) (T := TX11) (N := 17) dX11_lost_120 rfl (by decide) (by decide) qf_X11_19 (s_iload dX11_lost_123 (s_invT (X := xX7_rowOf) (ci := 7) (T := TX7) (N := 4) (K := (fun Q => kX7_rowOf_0 g (d - 1) 0 0 Q)) (fun _ => tX7_rowOf_0) rfl dX11_lost_125 m_X7_rowOf rfl (by decide) qm_X11_322 qi_X7_rowOf qe_X7_rowOf (s_iload dX11_lost_128 (s_invT (X := xX3_add) (ci := 3) (T := TX3) (N := 5) (K := (fun Q => kX3_add_0 g (d - 1) 0 0 Q)) (fun _ => tX3_add_0) rfl dX11_lost_130 m_X3_add rfl (by decide) qm_X11_325 qi_X3_add qe_X3_add (s_iinc dX11_lost_133 (by decide : 5 < 8) (s_goto (tgt := 46) dX11_lost_136 (by decide) (sk_id)))))))))))))
theorem dX11_faded_0 : decode cX11_faded 0 = .ok (.aload_n 0, 1) := by decide +kernel
theorem dX11_faded_1 : decode cX11_faded 1 = .ok (.getfield 29, 3) := by decide +kernel
theorem dX11_faded_4 : decode cX11_faded 4 = .ok (.iload_n 1, 1) := by decide +kernel
theorem dX11_faded_5 : decode cX11_faded 5 = .ok (.invokevirtual 171, 3) := by decide +kernel
theorem dX11_faded_8 : decode cX11_faded 8 = .ok (.astore 4, 2) := by decide +kernel
theorem dX11_faded_10 : decode cX11_faded 10 = .ok (.iload_n 3, 1) := by decide +kernel
theorem dX11_faded_11 : decode cX11_faded 11 = .ok (.iconst 1, 1) := by decide +kernel
theorem dX11_faded_12 : decode cX11_faded 12 = .ok (.if_icmp .lt 22, 3) := by decide +kernel
theorem dX11_faded_15 : decode cX11_faded 15 = .ok (.iload_n 3, 1) := by decide +kernel
theorem dX11_faded_16 : decode cX11_faded 16 = .ok (.bipush 16, 2) := by decide +kernel
theorem dX11_faded_18 : decode cX11_faded 18 = .ok (.if_icmp .gt 16, 3) := by decide +kernel
theorem dX11_faded_21 : decode cX11_faded 21 = .ok (.aload_n 0, 1) := by decide +kernel
theorem dX11_faded_22 : decode cX11_faded 22 = .ok (.getfield 19, 3) := by decide +kernel
theorem dX11_faded_25 : decode cX11_faded 25 = .ok (.aload 4, 2) := by decide +kernel
theorem dX11_faded_27 : decode cX11_faded 27 = .ok (.iload_n 2, 1) := by decide +kernel
theorem dX11_faded_28 : decode cX11_faded 28 = .ok (.invokevirtual 202, 3) := by decide +kernel
theorem dX11_faded_31 : decode cX11_faded 31 = .ok (.ifCond .ne 5, 3) := by decide +kernel
theorem dX11_faded_34 : decode cX11_faded 34 = .ok (.iconst (-1), 1) := by decide +kernel
theorem dX11_faded_35 : decode cX11_faded 35 = .ok (.ireturn, 1) := by decide +kernel
theorem dX11_faded_36 : decode cX11_faded 36 = .ok (.aload_n 0, 1) := by decide +kernel
theorem dX11_faded_37 : decode cX11_faded 37 = .ok (.getfield 40, 3) := by decide +kernel
theorem dX11_faded_40 : decode cX11_faded 40 = .ok (.aload_n 0, 1) := by decide +kernel
theorem dX11_faded_41 : decode cX11_faded 41 = .ok (.getfield 36, 3) := by decide +kernel
theorem dX11_faded_44 : decode cX11_faded 44 = .ok (.invokevirtual 333, 3) := by decide +kernel
theorem dX11_faded_47 : decode cX11_faded 47 = .ok (.iconst 0, 1) := by decide +kernel
theorem dX11_faded_48 : decode cX11_faded 48 = .ok (.istore 5, 2) := by decide +kernel
theorem dX11_faded_50 : decode cX11_faded 50 = .ok (.iload 5, 2) := by decide +kernel
theorem dX11_faded_52 : decode cX11_faded 52 = .ok (.bipush 99, 2) := by decide +kernel
theorem dX11_faded_54 : decode cX11_faded 54 = .ok (.if_icmp .gt 45, 3) := by decide +kernel
theorem dX11_faded_57 : decode cX11_faded 57 = .ok (.aload_n 0, 1) := by decide +kernel
theorem dX11_faded_58 : decode cX11_faded 58 = .ok (.iconst 0, 1) := by decide +kernel
theorem dX11_faded_59 : decode cX11_faded 59 = .ok (.aload_n 0, 1) := by decide +kernel
theorem dX11_faded_60 : decode cX11_faded 60 = .ok (.getfield 40, 3) := by decide +kernel
theorem dX11_faded_63 : decode cX11_faded 63 = .ok (.aload 4, 2) := by decide +kernel
theorem dX11_faded_65 : decode cX11_faded 65 = .ok (.iload_n 2, 1) := by decide +kernel
theorem dX11_faded_66 : decode cX11_faded 66 = .ok (.invokevirtual 271, 3) := by decide +kernel
theorem dX11_faded_69 : decode cX11_faded 69 = .ok (.iload_n 3, 1) := by decide +kernel
theorem dX11_faded_70 : decode cX11_faded 70 = .ok (.if_icmp .ge 6, 3) := by decide +kernel
theorem dX11_faded_73 : decode cX11_faded 73 = .ok (.iload 5, 2) := by decide +kernel
theorem dX11_faded_75 : decode cX11_faded 75 = .ok (.ireturn, 1) := by decide +kernel
theorem dX11_faded_76 : decode cX11_faded 76 = .ok (.aload_n 0, 1) := by decide +kernel
theorem dX11_faded_77 : decode cX11_faded 77 = .ok (.aload 4, 2) := by decide +kernel
theorem dX11_faded_79 : decode cX11_faded 79 = .ok (.iload_n 2, 1) := by decide +kernel
theorem dX11_faded_80 : decode cX11_faded 80 = .ok (.aload_n 0, 1) := by decide +kernel
theorem dX11_faded_81 : decode cX11_faded 81 = .ok (.getfield 36, 3) := by decide +kernel
theorem dX11_faded_84 : decode cX11_faded 84 = .ok (.getfield 233, 3) := by decide +kernel
theorem dX11_faded_87 : decode cX11_faded 87 = .ok (.iload 5, 2) := by decide +kernel
theorem dX11_faded_89 : decode cX11_faded 89 = .ok (.iadd, 1) := by decide +kernel
theorem dX11_faded_90 : decode cX11_faded 90 = .ok (.invokevirtual 336, 3) := by decide +kernel
theorem dX11_faded_93 : decode cX11_faded 93 = .ok (.iinc 5 1, 3) := by decide +kernel
theorem dX11_faded_96 : decode cX11_faded 96 = .ok (.goto (-46), 3) := by decide +kernel
theorem dX11_faded_99 : decode cX11_faded 99 = .ok (.iconst (-1), 1) := by decide +kernel
theorem dX11_faded_100 : decode cX11_faded 100 = .ok (.ireturn, 1) := by decide +kernel
set_option maxRecDepth 20000 in
def kX11_faded_0 (g : sk_G) (d ck sk : Nat) (Q : sk_P) : sk_K := o_aload 0 (o_getf 11 3 (o_iload 1 (o_invT (g, d, ck, sk, xX11_faded, Q) 2 1 8 (fun Q => kX8_writingAt_0 g (d - 1) 0 0 Q) (o_astore 4 (o_iload 3 (o_i (1) (o_iclt (o_i (-1) (o_iret (g, d, ck, sk, xX11_faded, Q))) (o_iload 3 (o_i (16) (o_icgt (o_i (-1) (o_iret (g, d, ck, sk, xX11_faded, Q))) (o_aload 0 (o_getf 11 1 (o_aload 4 (o_iload 2 (o_invB (g, d, ck, sk, xX11_faded, Q) xX7_does 2 7 0 0 (o_ifne (o_aload 0 (o_getf 11 5 (o_aload 0 (o_getf 11 4 (o_invB (g, d, ck, sk, xX11_faded, Q) xX5_copyFrom 1 5 0 0 (o_i (0) (o_istore 5 (sk_B (g, d, ck, sk, xX11_faded, Q) 50)))))))) (o_i (-1) (o_iret (g, d, ck, sk, xX11_faded, Q)))))))))))))))))))
set_option maxRecDepth 20000 in
theorem tX11_faded_0 {g : sk_G} {d ck sk : Nat} {Q : sk_P} : sk_S (g, d, ck, sk, xX11_faded, Q) 0 (kX11_faded_0 g d ck sk Q) := s_aload_n dX11_faded_0 rfl (s_getf (ci := 11) (j := 3) (C := RX11) (T := TX11) (N := 17) dX11_faded_1 rfl (by decide) (by decide) qf_X11_29 (s_iload_n dX11_faded_4 rfl (s_invT (X := xX8_writingAt) (ci := 8) (T := TX8) (N := 7) (K := (fun Q => kX8_writingAt_0 g (d - 1) 0 0 Q)) (fun _ => tX8_writingAt_0) rfl dX11_faded_5 m_X8_writingAt rfl (by decide) qm_X11_171 qi_X8_writingAt qe_X8_writingAt (s_astore dX11_faded_8 (by decide : 4 < 6) (s_iload_n dX11_faded_10 rfl (s_iconst dX11_faded_11 (s_iclt (tgt := 34) dX11_faded_12 (by decide) (s_iconst dX11_faded_34 (s_iret dX11_faded_35 rfl)) (s_iload_n dX11_faded_15 rfl (s_bipush dX11_faded_16 rfl (s_icgt (tgt := 34) dX11_faded_18 (by decide) (s_iconst dX11_faded_34 (s_iret dX11_faded_35 rfl)) (s_aload_n dX11_faded_21 rfl (s_getf (ci := 11) (j := 1) (C := RX11) (T := TX11) (N := 17) dX11_faded_22 rfl (by decide) (by decide) qf_X11_19 (s_aload dX11_faded_25 (s_iload_n dX11_faded_27 rfl (s_invB (w' := (g, d, ck, sk, xX11_faded, Q)) (ci := 7) (ck := 0) (sk := 0) (T := TX7) (N := 4) dX11_faded_28 m_X7_does rfl (by decide) qm_X11_202 qi_X7_does qe_X7_does rfl (s_ifne (tgt := 36) dX11_faded_31 (by decide) (s_aload_n dX11_faded_36 rfl (s_getf (ci := 11) (j := 5) (C := RX11) (T := TX11) (N := 17) dX11_faded_37 rfl (by decide) (by decide) qf_X11_40 (s_aload_n dX11_faded_40 rfl (s_getf (ci := 11) (j := 4) (C := RX11) (T := TX11) (N := 17) dX11_faded_41 rfl (by decide) (by decide) qf_X11_36 (s_invB (w' := (g, d, ck, sk, xX11_faded, Q)) (ci := 5) (ck := 0) (sk := 0) (T := TX5) (N := 6) dX11_faded_44 m_X5_copyFrom rfl (by decide) qm_X11_333 qi_X5_copyFrom qe_X5_copyFrom rfl (s_iconst dX11_faded_47 (s_istore dX11_faded_48 (by decide : 5 < 6) (sk_id)))))))) (s_iconst dX11_faded_34 (s_iret dX11_faded_35 rfl))))))))))))))))))
set_option maxRecDepth 20000 in
def kX11_faded_50 (g : sk_G) (d ck sk : Nat) (Q : sk_P) : sk_K := o_iload 5 (o_i (99) (o_icgt (o_i (-1) (o_iret (g, d, ck, sk, xX11_faded, Q))) (o_aload 0 (o_i (0) (o_aload 0 (o_getf 11 5 (o_aload 4 (o_iload 2 (o_invB (g, d, ck, sk, xX11_faded, Q) xX11_lettersThat 4 11 0 0 (o_iload 3 (o_icge (o_aload 0 (o_aload 4 (o_iload 2 (o_aload 0 (o_getf 11 4 (o_getf 5 3 (o_iload 5 (o_iadd (o_invB (g, d, ck, sk, xX11_faded, Q) xX11_fadeLetters 3 11 0 0 (o_iinc 5 (1) (sk_B (g, d, ck, sk, xX11_faded, Q) 50))))))))))) (o_iload 5 (o_iret (g, d, ck, sk, xX11_faded, Q))))))))))))))
set_option maxRecDepth 20000 in
theorem tX11_faded_50 {g : sk_G} {d ck sk : Nat} {Q : sk_P} : sk_S (g, d, ck, sk, xX11_faded, Q) 50 (kX11_faded_50 g d ck sk Q) := s_iload dX11_faded_50 (s_bipush dX11_faded_52 rfl (s_icgt (tgt := 99) dX11_faded_54 (by decide) (s_iconst dX11_faded_99 (s_iret dX11_faded_100 rfl)) (s_aload_n dX11_faded_57 rfl (s_iconst dX11_faded_58 (s_aload_n dX11_faded_59 rfl (s_getf (ci := 11) (j := 5) (C := RX11) (T := TX11) (N := 17) dX11_faded_60 rfl (by decide) (by decide) qf_X11_40 (s_aload dX11_faded_63 (s_iload_n dX11_faded_65 rfl (s_invB (w' := (g, d, ck, sk, xX11_faded, Q)) (ci := 11) (ck := 0) (sk := 0) (T := TX11) (N := 17) dX11_faded_66 m_X11_lettersThat rfl (by decide) qm_X11_271 qi_X11_lettersThat qe_X11_lettersThat rfl (s_iload_n dX11_faded_69 rfl (s_icge (tgt := 76) dX11_faded_70 (by decide) (s_aload_n dX11_faded_76 rfl (s_aload dX11_faded_77 (s_iload_n dX11_faded_79 rfl (s_aload_n dX11_faded_80 rfl (s_getf (ci := 11) (j := 4) (C := RX11) (T := TX11) (N := 17) dX11_faded_81 rfl (by decide) (by decide) qf_X11_36 (s_getfN (ci := 5) (j := 3) (C := RX5) (T := TX5) (N := 6) dX11_faded_84 rfl (by decide) (by decide) qn_X11_233 (s_iload dX11_faded_87 (s_iadd dX11_faded_89 (s_invB (w' := (g, d, ck, sk, xX11_faded, Q)) (ci := 11) (ck := 0) (sk := 0) (T := TX11) (N := 17) dX11_faded_90 m_X11_fadeLetters rfl (by decide) qm_X11_336 qi_X11_fadeLetters qe_X11_fadeLetters rfl (s_iinc dX11_faded_93 (by decide : 5 < 6) (s_goto (tgt := 50) dX11_faded_96 (by decide) (sk_id)))))))))))) (s_iload dX11_faded_73 (s_iret dX11_faded_75 rfl)))))))))))))
theorem dX11_fadeLetters_0 : decode cX11_fadeLetters 0 = .ok (.iconst 0, 1) := by decide +kernel
theorem dX11_fadeLetters_1 : decode cX11_fadeLetters 1 = .ok (.istore 4, 2) := by decide +kernel
theorem dX11_fadeLetters_3 : decode cX11_fadeLetters 3 = .ok (.iload 4, 2) := by decide +kernel
theorem dX11_fadeLetters_5 : decode cX11_fadeLetters 5 = .ok (.aload_n 1, 1) := by decide +kernel
theorem dX11_fadeLetters_6 : decode cX11_fadeLetters 6 = .ok (.getfield 305, 3) := by decide +kernel
theorem dX11_fadeLetters_9 : decode cX11_fadeLetters 9 = .ok (.if_icmp .ge 39, 3) := by decide +kernel
theorem dX11_fadeLetters_12 : decode cX11_fadeLetters 12 = .ok (.aload_n 1, 1) := by decide +kernel
theorem dX11_fadeLetters_13 : decode cX11_fadeLetters 13 = .ok (.iload 4, 2) := by decide +kernel
theorem dX11_fadeLetters_15 : decode cX11_fadeLetters 15 = .ok (.invokevirtual 312, 3) := by decide +kernel
theorem dX11_fadeLetters_18 : decode cX11_fadeLetters 18 = .ok (.ifCond .eq 24, 3) := by decide +kernel
theorem dX11_fadeLetters_21 : decode cX11_fadeLetters 21 = .ok (.aload_n 0, 1) := by decide +kernel
theorem dX11_fadeLetters_22 : decode cX11_fadeLetters 22 = .ok (.aload_n 0, 1) := by decide +kernel
theorem dX11_fadeLetters_23 : decode cX11_fadeLetters 23 = .ok (.getfield 40, 3) := by decide +kernel
theorem dX11_fadeLetters_26 : decode cX11_fadeLetters 26 = .ok (.aload_n 0, 1) := by decide +kernel
theorem dX11_fadeLetters_27 : decode cX11_fadeLetters 27 = .ok (.getfield 19, 3) := by decide +kernel
theorem dX11_fadeLetters_30 : decode cX11_fadeLetters 30 = .ok (.aload_n 1, 1) := by decide +kernel
theorem dX11_fadeLetters_31 : decode cX11_fadeLetters 31 = .ok (.iload 4, 2) := by decide +kernel
theorem dX11_fadeLetters_33 : decode cX11_fadeLetters 33 = .ok (.iload_n 2, 1) := by decide +kernel
theorem dX11_fadeLetters_34 : decode cX11_fadeLetters 34 = .ok (.invokevirtual 308, 3) := by decide +kernel
theorem dX11_fadeLetters_37 : decode cX11_fadeLetters 37 = .ok (.iload_n 3, 1) := by decide +kernel
theorem dX11_fadeLetters_38 : decode cX11_fadeLetters 38 = .ok (.invokevirtual 435, 3) := by decide +kernel
theorem dX11_fadeLetters_41 : decode cX11_fadeLetters 41 = .ok (.pop, 1) := by decide +kernel
theorem dX11_fadeLetters_42 : decode cX11_fadeLetters 42 = .ok (.iinc 4 1, 3) := by decide +kernel
theorem dX11_fadeLetters_45 : decode cX11_fadeLetters 45 = .ok (.goto (-42), 3) := by decide +kernel
theorem dX11_fadeLetters_48 : decode cX11_fadeLetters 48 = .ok (.return_, 1) := by decide +kernel
def kX11_fadeLetters_0 (g : sk_G) (d ck sk : Nat) (Q : sk_P) : sk_K := o_i (0) (o_istore 4 (sk_B (g, d, ck, sk, xX11_fadeLetters, Q) 3))
theorem tX11_fadeLetters_0 {g : sk_G} {d ck sk : Nat} {Q : sk_P} : sk_S (g, d, ck, sk, xX11_fadeLetters, Q) 0 (kX11_fadeLetters_0 g d ck sk Q) := s_iconst dX11_fadeLetters_0 (s_istore dX11_fadeLetters_1 (by decide : 4 < 5) (sk_id))
set_option maxRecDepth 20000 in
def kX11_fadeLetters_3 (g : sk_G) (d ck sk : Nat) (Q : sk_P) : sk_K := o_iload 4 (o_aload 1 (o_getf 10 5 (o_icge (o_ret (g, d, ck, sk, xX11_fadeLetters, Q)) (o_aload 1 (o_iload 4 (o_invT (g, d, ck, sk, xX11_fadeLetters, Q) 2 1 10 (fun Q => kX10_isLetter_0 g (d - 1) 0 0 Q) (o_ifeq (o_iinc 4 (1) (sk_B (g, d, ck, sk, xX11_fadeLetters, Q) 3)) (o_aload 0 (o_aload 0 (o_getf 11 5 (o_aload 0 (o_getf 11 1 (o_aload 1 (o_iload 4 (o_iload 2 (o_invB (g, d, ck, sk, xX11_fadeLetters, Q) xX7_cellOf 3 7 0 0 (o_iload 3 (o_invB (g, d, ck, sk, xX11_fadeLetters, Q) xX11_fadeCell 3 11 0 0 (o_pop (o_iinc 4 (1) (sk_B (g, d, ck, sk, xX11_fadeLetters, Q) 3)))))))))))))))))))))
set_option maxRecDepth 20000 in
theorem tX11_fadeLetters_3 {g : sk_G} {d ck sk : Nat} {Q : sk_P} : sk_S (g, d, ck, sk, xX11_fadeLetters, Q) 3 (kX11_fadeLetters_3 g d ck sk Q) := s_iload dX11_fadeLetters_3 (s_aload_n dX11_fadeLetters_5 rfl (s_getfN (ci := 10) (j := 5) (C := RX10) (T := TX10) (N := 9) dX11_fadeLetters_6 rfl (by decide) (by decide) qn_X11_305 (s_icge (tgt := 48) dX11_fadeLetters_9 (by decide) (s_ret dX11_fadeLetters_48 rfl) (s_aload_n dX11_fadeLetters_12 rfl (s_iload dX11_fadeLetters_13 (s_invT (X := xX10_isLetter) (ci := 10) (T := TX10) (N := 9) (K := (fun Q => kX10_isLetter_0 g (d - 1) 0 0 Q)) (fun _ => tX10_isLetter_0) rfl dX11_fadeLetters_15 m_X10_isLetter rfl (by decide) qm_X11_312 qi_X10_isLetter qe_X10_isLetter (s_ifeq (tgt := 42) dX11_fadeLetters_18 (by decide) (s_iinc dX11_fadeLetters_42 (by decide : 4 < 5) (s_goto (tgt := 3) dX11_fadeLetters_45 (by decide) (sk_id))) (s_aload_n dX11_fadeLetters_21 rfl (s_aload_n dX11_fadeLetters_22 rfl (s_getf (ci := 11) (j := 5) (C := RX11) (T := TX11) (N := 17) dX11_fadeLetters_23 rfl (by decide) (by decide) qf_X11_40 (s_aload_n dX11_fadeLetters_26 rfl (s_getf (ci := 11) (j := 1) (C := RX11) (T := TX11) (N := 17) dX11_fadeLetters_27 rfl (by decide) (by decide) qf_X11_19 (s_aload_n dX11_fadeLetters_30 rfl (s_iload dX11_fadeLetters_31 (s_iload_n dX11_fadeLetters_33 rfl (s_invB (w' := (g, d, ck, sk, xX11_fadeLetters, Q)) (ci := 7) (ck := 0) (sk := 0) (T := TX7) (N := 4) dX11_fadeLetters_34 m_X7_cellOf rfl (by decide) qm_X11_308 qi_X7_cellOf qe_X7_cellOf rfl (s_iload_n dX11_fadeLetters_37 rfl (s_invB (w' := (g, d, ck, sk, xX11_fadeLetters, Q)) (ci := 11) (ck := 0) (sk := 0) (T := TX11) (N := 17) dX11_fadeLetters_38 m_X11_fadeCell rfl (by decide) qm_X11_435 qi_X11_fadeCell qe_X11_fadeCell rfl (s_pop dX11_fadeLetters_41 (s_iinc dX11_fadeLetters_42 (by decide : 4 < 5) (s_goto (tgt := 3) dX11_fadeLetters_45 (by decide) (sk_id))))))))))))))))))))))
theorem dX11_noted_0 : decode cX11_noted 0 = .ok (.aload_n 0, 1) := by decide +kernel
theorem dX11_noted_1 : decode cX11_noted 1 = .ok (.getfield 19, 3) := by decide +kernel
theorem dX11_noted_4 : decode cX11_noted 4 = .ok (.iload_n 1, 1) := by decide +kernel
theorem dX11_noted_5 : decode cX11_noted 5 = .ok (.invokevirtual 178, 3) := by decide +kernel
theorem dX11_noted_8 : decode cX11_noted 8 = .ok (.ifCond .eq 13, 3) := by decide +kernel
theorem dX11_noted_11 : decode cX11_noted 11 = .ok (.iload_n 2, 1) := by decide +kernel
theorem dX11_noted_12 : decode cX11_noted 12 = .ok (.ifCond .lt 9, 3) := by decide +kernel
theorem dX11_noted_15 : decode cX11_noted 15 = .ok (.iload_n 2, 1) := by decide +kernel
theorem dX11_noted_16 : decode cX11_noted 16 = .ok (.bipush 26, 2) := by decide +kernel
theorem dX11_noted_18 : decode cX11_noted 18 = .ok (.if_icmp .lt 5, 3) := by decide +kernel
theorem dX11_noted_21 : decode cX11_noted 21 = .ok (.iconst (-1), 1) := by decide +kernel
theorem dX11_noted_22 : decode cX11_noted 22 = .ok (.ireturn, 1) := by decide +kernel
theorem dX11_noted_23 : decode cX11_noted 23 = .ok (.aload_n 0, 1) := by decide +kernel
theorem dX11_noted_24 : decode cX11_noted 24 = .ok (.getfield 60, 3) := by decide +kernel
theorem dX11_noted_27 : decode cX11_noted 27 = .ok (.iload_n 1, 1) := by decide +kernel
theorem dX11_noted_28 : decode cX11_noted 28 = .ok (.iload_n 2, 1) := by decide +kernel
theorem dX11_noted_29 : decode cX11_noted 29 = .ok (.iload_n 3, 1) := by decide +kernel
theorem dX11_noted_30 : decode cX11_noted 30 = .ok (.invokevirtual 339, 3) := by decide +kernel
theorem dX11_noted_33 : decode cX11_noted 33 = .ok (.ireturn, 1) := by decide +kernel
set_option maxRecDepth 20000 in
def kX11_noted_0 (g : sk_G) (d ck sk : Nat) (Q : sk_P) : sk_K := o_aload 0 (o_getf 11 1 (o_iload 1 (o_invT (g, d, ck, sk, xX11_noted, Q) 2 1 7 (fun Q => kX7_hasCell_0 g (d - 1) 0 0 Q) (o_ifeq (o_i (-1) (o_iret (g, d, ck, sk, xX11_noted, Q))) (o_iload 2 (o_iflt (o_i (-1) (o_iret (g, d, ck, sk, xX11_noted, Q))) (o_iload 2 (o_i (26) (o_iclt (o_aload 0 (o_getf 11 8 (o_iload 1 (o_iload 2 (o_iload 3 (o_invB (g, d, ck, sk, xX11_noted, Q) xX4_add 3 4 0 0 (o_iret (g, d, ck, sk, xX11_noted, Q)))))))) (o_i (-1) (o_iret (g, d, ck, sk, xX11_noted, Q))))))))))))
set_option maxRecDepth 20000 in
theorem tX11_noted_0 {g : sk_G} {d ck sk : Nat} {Q : sk_P} : sk_S (g, d, ck, sk, xX11_noted, Q) 0 (kX11_noted_0 g d ck sk Q) := s_aload_n dX11_noted_0 rfl (s_getf (ci := 11) (j := 1) (C := RX11) (T := TX11) (N := 17) dX11_noted_1 rfl (by decide) (by decide) qf_X11_19 (s_iload_n dX11_noted_4 rfl (s_invT (X := xX7_hasCell) (ci := 7) (T := TX7) (N := 4) (K := (fun Q => kX7_hasCell_0 g (d - 1) 0 0 Q)) (fun _ => tX7_hasCell_0) rfl dX11_noted_5 m_X7_hasCell rfl (by decide) qm_X11_178 qi_X7_hasCell qe_X7_hasCell (s_ifeq (tgt := 21) dX11_noted_8 (by decide) (s_iconst dX11_noted_21 (s_iret dX11_noted_22 rfl)) (s_iload_n dX11_noted_11 rfl (s_iflt (tgt := 21) dX11_noted_12 (by decide) (s_iconst dX11_noted_21 (s_iret dX11_noted_22 rfl)) (s_iload_n dX11_noted_15 rfl (s_bipush dX11_noted_16 rfl (s_iclt (tgt := 23) dX11_noted_18 (by decide) (s_aload_n dX11_noted_23 rfl (s_getf (ci := 11) (j := 8) (C := RX11) (T := TX11) (N := 17) dX11_noted_24 rfl (by decide) (by decide) qf_X11_60 (s_iload_n dX11_noted_27 rfl (s_iload_n dX11_noted_28 rfl (s_iload_n dX11_noted_29 rfl (s_invB (w' := (g, d, ck, sk, xX11_noted, Q)) (ci := 4) (ck := 0) (sk := 0) (T := TX4) (N := 4) dX11_noted_30 m_X4_add rfl (by decide) qm_X11_339 qi_X4_add qe_X4_add rfl (s_iret dX11_noted_33 rfl))))))) (s_iconst dX11_noted_21 (s_iret dX11_noted_22 rfl)))))))))))
theorem dX11_fits_0 : decode cX11_fits 0 = .ok (.aload_n 0, 1) := by decide +kernel
theorem dX11_fits_1 : decode cX11_fits 1 = .ok (.getfield 19, 3) := by decide +kernel
theorem dX11_fits_4 : decode cX11_fits 4 = .ok (.invokevirtual 141, 3) := by decide +kernel
theorem dX11_fits_7 : decode cX11_fits 7 = .ok (.ifCond .eq 8, 3) := by decide +kernel
theorem dX11_fits_10 : decode cX11_fits 10 = .ok (.iload_n 1, 1) := by decide +kernel
theorem dX11_fits_11 : decode cX11_fits 11 = .ok (.iconst (-1), 1) := by decide +kernel
theorem dX11_fits_12 : decode cX11_fits 12 = .ok (.if_icmp .ge 5, 3) := by decide +kernel
theorem dX11_fits_15 : decode cX11_fits 15 = .ok (.iconst (-1), 1) := by decide +kernel
theorem dX11_fits_16 : decode cX11_fits 16 = .ok (.ireturn, 1) := by decide +kernel
theorem dX11_fits_17 : decode cX11_fits 17 = .ok (.iconst 0, 1) := by decide +kernel
theorem dX11_fits_18 : decode cX11_fits 18 = .ok (.istore_n 2, 1) := by decide +kernel
theorem dX11_fits_19 : decode cX11_fits 19 = .ok (.iconst 0, 1) := by decide +kernel
theorem dX11_fits_20 : decode cX11_fits 20 = .ok (.istore_n 3, 1) := by decide +kernel
theorem dX11_fits_21 : decode cX11_fits 21 = .ok (.iload_n 3, 1) := by decide +kernel
theorem dX11_fits_22 : decode cX11_fits 22 = .ok (.aload_n 0, 1) := by decide +kernel
theorem dX11_fits_23 : decode cX11_fits 23 = .ok (.getfield 29, 3) := by decide +kernel
theorem dX11_fits_26 : decode cX11_fits 26 = .ok (.getfield 342, 3) := by decide +kernel
theorem dX11_fits_29 : decode cX11_fits 29 = .ok (.if_icmp .ge 64, 3) := by decide +kernel
theorem dX11_fits_32 : decode cX11_fits 32 = .ok (.iconst 0, 1) := by decide +kernel
theorem dX11_fits_33 : decode cX11_fits 33 = .ok (.istore 4, 2) := by decide +kernel
theorem dX11_fits_35 : decode cX11_fits 35 = .ok (.iload 4, 2) := by decide +kernel
theorem dX11_fits_37 : decode cX11_fits 37 = .ok (.aload_n 0, 1) := by decide +kernel
theorem dX11_fits_38 : decode cX11_fits 38 = .ok (.getfield 19, 3) := by decide +kernel
theorem dX11_fits_41 : decode cX11_fits 41 = .ok (.invokevirtual 275, 3) := by decide +kernel
theorem dX11_fits_44 : decode cX11_fits 44 = .ok (.if_icmp .ge 43, 3) := by decide +kernel
theorem dX11_fits_47 : decode cX11_fits 47 = .ok (.aload_n 0, 1) := by decide +kernel
theorem dX11_fits_48 : decode cX11_fits 48 = .ok (.aload_n 0, 1) := by decide +kernel
theorem dX11_fits_49 : decode cX11_fits 49 = .ok (.getfield 29, 3) := by decide +kernel
theorem dX11_fits_52 : decode cX11_fits 52 = .ok (.iload_n 3, 1) := by decide +kernel
theorem dX11_fits_53 : decode cX11_fits 53 = .ok (.invokevirtual 171, 3) := by decide +kernel
theorem dX11_fits_56 : decode cX11_fits 56 = .ok (.iload 4, 2) := by decide +kernel
theorem dX11_fits_58 : decode cX11_fits 58 = .ok (.invokevirtual 345, 3) := by decide +kernel
theorem dX11_fits_61 : decode cX11_fits 61 = .ok (.ifCond .eq 20, 3) := by decide +kernel
theorem dX11_fits_64 : decode cX11_fits 64 = .ok (.iload_n 2, 1) := by decide +kernel
theorem dX11_fits_65 : decode cX11_fits 65 = .ok (.iload_n 1, 1) := by decide +kernel
theorem dX11_fits_66 : decode cX11_fits 66 = .ok (.if_icmp .ne 12, 3) := by decide +kernel
theorem dX11_fits_69 : decode cX11_fits 69 = .ok (.sipush 1000, 3) := by decide +kernel
theorem dX11_fits_72 : decode cX11_fits 72 = .ok (.iload_n 3, 1) := by decide +kernel
theorem dX11_fits_73 : decode cX11_fits 73 = .ok (.imul, 1) := by decide +kernel
theorem dX11_fits_74 : decode cX11_fits 74 = .ok (.iload 4, 2) := by decide +kernel
theorem dX11_fits_76 : decode cX11_fits 76 = .ok (.iadd, 1) := by decide +kernel
theorem dX11_fits_77 : decode cX11_fits 77 = .ok (.ireturn, 1) := by decide +kernel
theorem dX11_fits_78 : decode cX11_fits 78 = .ok (.iinc 2 1, 3) := by decide +kernel
theorem dX11_fits_81 : decode cX11_fits 81 = .ok (.iinc 4 1, 3) := by decide +kernel
theorem dX11_fits_84 : decode cX11_fits 84 = .ok (.goto (-49), 3) := by decide +kernel
theorem dX11_fits_87 : decode cX11_fits 87 = .ok (.iinc 3 1, 3) := by decide +kernel
theorem dX11_fits_90 : decode cX11_fits 90 = .ok (.goto (-69), 3) := by decide +kernel
theorem dX11_fits_93 : decode cX11_fits 93 = .ok (.iload_n 1, 1) := by decide +kernel
theorem dX11_fits_94 : decode cX11_fits 94 = .ok (.iconst (-1), 1) := by decide +kernel
theorem dX11_fits_95 : decode cX11_fits 95 = .ok (.if_icmp .ne 7, 3) := by decide +kernel
theorem dX11_fits_98 : decode cX11_fits 98 = .ok (.iload_n 2, 1) := by decide +kernel
theorem dX11_fits_99 : decode cX11_fits 99 = .ok (.goto 4, 3) := by decide +kernel
theorem dX11_fits_102 : decode cX11_fits 102 = .ok (.iconst (-1), 1) := by decide +kernel
theorem dX11_fits_103 : decode cX11_fits 103 = .ok (.ireturn, 1) := by decide +kernel
set_option maxRecDepth 20000 in
def kX11_fits_0 (g : sk_G) (d ck sk : Nat) (Q : sk_P) : sk_K := o_aload 0 (o_getf 11 1 (o_invT (g, d, ck, sk, xX11_fits, Q) 1 0 7 (fun Q => kX7_isSkin_0 g (d - 1) 0 0 Q) (o_ifeq (o_i (-1) (o_iret (g, d, ck, sk, xX11_fits, Q))) (o_iload 1 (o_i (-1) (o_icge (o_i (0) (o_istore 2 (o_i (0) (o_istore 3 (sk_B (g, d, ck, sk, xX11_fits, Q) 21))))) (o_i (-1) (o_iret (g, d, ck, sk, xX11_fits, Q)))))))))
set_option maxRecDepth 20000 in
theorem tX11_fits_0 {g : sk_G} {d ck sk : Nat} {Q : sk_P} : sk_S (g, d, ck, sk, xX11_fits, Q) 0 (kX11_fits_0 g d ck sk Q) := s_aload_n dX11_fits_0 rfl (s_getf (ci := 11) (j := 1) (C := RX11) (T := TX11) (N := 17) dX11_fits_1 rfl (by decide) (by decide) qf_X11_19 (s_invT (X := xX7_isSkin) (ci := 7) (T := TX7) (N := 4) (K := (fun Q => kX7_isSkin_0 g (d - 1) 0 0 Q)) (fun _ => tX7_isSkin_0) rfl dX11_fits_4 m_X7_isSkin rfl (by decide) qm_X11_141 qi_X7_isSkin qe_X7_isSkin (s_ifeq (tgt := 15) dX11_fits_7 (by decide) (s_iconst dX11_fits_15 (s_iret dX11_fits_16 rfl)) (s_iload_n dX11_fits_10 rfl (s_iconst dX11_fits_11 (s_icge (tgt := 17) dX11_fits_12 (by decide) (s_iconst dX11_fits_17 (s_istore_n dX11_fits_18 rfl (by decide : 2 < 5) (s_iconst dX11_fits_19 (s_istore_n dX11_fits_20 rfl (by decide : 3 < 5) (sk_id))))) (s_iconst dX11_fits_15 (s_iret dX11_fits_16 rfl))))))))
def kX11_fits_21 (g : sk_G) (d ck sk : Nat) (Q : sk_P) : sk_K := o_iload 3 (o_aload 0 (o_getf 11 3 (o_getf 8 5 (o_icge (o_iload 1 (o_i (-1) (o_icne (o_i (-1) (o_iret (g, d, ck, sk, xX11_fits, Q))) (o_iload 2 (o_iret (g, d, ck, sk, xX11_fits, Q)))))) (o_i (0) (o_istore 4 (sk_B (g, d, ck, sk, xX11_fits, Q) 35)))))))
theorem tX11_fits_21 {g : sk_G} {d ck sk : Nat} {Q : sk_P} : sk_S (g, d, ck, sk, xX11_fits, Q) 21 (kX11_fits_21 g d ck sk Q) := s_iload_n dX11_fits_21 rfl (s_aload_n dX11_fits_22 rfl (s_getf (ci := 11) (j := 3) (C := RX11) (T := TX11) (N := 17) dX11_fits_23 rfl (by decide) (by decide) qf_X11_29 (s_getfN (ci := 8) (j := 5) (C := RX8) (T := TX8) (N := 7) dX11_fits_26 rfl (by decide) (by decide) qn_X11_342 (s_icge (tgt := 93) dX11_fits_29 (by decide) (s_iload_n dX11_fits_93 rfl (s_iconst dX11_fits_94 (s_icne (tgt := 102) dX11_fits_95 (by decide) (s_iconst dX11_fits_102 (s_iret dX11_fits_103 rfl)) (s_iload_n dX11_fits_98 rfl (s_goto (tgt := 103) dX11_fits_99 (by decide) (s_iret dX11_fits_103 rfl)))))) (s_iconst dX11_fits_32 (s_istore dX11_fits_33 (by decide : 4 < 5) (sk_id)))))))
set_option maxRecDepth 20000 in
def kX11_fits_35 (g : sk_G) (d ck sk : Nat) (Q : sk_P) : sk_K := o_iload 4 (o_aload 0 (o_getf 11 1 (o_invT (g, d, ck, sk, xX11_fits, Q) 1 0 7 (fun Q => kX7_spots_0 g (d - 1) 0 0 Q) (o_icge (o_iinc 3 (1) (sk_B (g, d, ck, sk, xX11_fits, Q) 21)) (o_aload 0 (o_aload 0 (o_getf 11 3 (o_iload 3 (o_invT (g, d, ck, sk, xX11_fits, Q) 2 1 8 (fun Q => kX8_writingAt_0 g (d - 1) 0 0 Q) (o_iload 4 (o_invB (g, d, ck, sk, xX11_fits, Q) xX11_isAsNoted 2 11 0 0 (o_ifeq (o_iinc 4 (1) (sk_B (g, d, ck, sk, xX11_fits, Q) 35)) (o_iload 2 (o_iload 1 (o_icne (o_iinc 2 (1) (o_iinc 4 (1) (sk_B (g, d, ck, sk, xX11_fits, Q) 35))) (o_i (1000) (o_iload 3 (o_imul (o_iload 4 (o_iadd (o_iret (g, d, ck, sk, xX11_fits, Q))))))))))))))))))))))
set_option maxRecDepth 20000 in
theorem tX11_fits_35 {g : sk_G} {d ck sk : Nat} {Q : sk_P} : sk_S (g, d, ck, sk, xX11_fits, Q) 35 (kX11_fits_35 g d ck sk Q) := s_iload dX11_fits_35 (s_aload_n dX11_fits_37 rfl (s_getf (ci := 11) (j := 1) (C := RX11) (T := TX11) (N := 17) dX11_fits_38 rfl (by decide) (by decide) qf_X11_19 (s_invT (X := xX7_spots) (ci := 7) (T := TX7) (N := 4) (K := (fun Q => kX7_spots_0 g (d - 1) 0 0 Q)) (fun _ => tX7_spots_0) rfl dX11_fits_41 m_X7_spots rfl (by decide) qm_X11_275 qi_X7_spots qe_X7_spots (s_icge (tgt := 87) dX11_fits_44 (by decide) (s_iinc dX11_fits_87 (by decide : 3 < 5) (s_goto (tgt := 21) dX11_fits_90 (by decide) (sk_id))) (s_aload_n dX11_fits_47 rfl (s_aload_n dX11_fits_48 rfl (s_getf (ci := 11) (j := 3) (C := RX11) (T := TX11) (N := 17) dX11_fits_49 rfl (by decide) (by decide) qf_X11_29 (s_iload_n dX11_fits_52 rfl (s_invT (X := xX8_writingAt) (ci := 8) (T := TX8) (N := 7) (K := (fun Q => kX8_writingAt_0 g (d - 1) 0 0 Q)) (fun _ => tX8_writingAt_0) rfl dX11_fits_53 m_X8_writingAt rfl (by decide) qm_X11_171 qi_X8_writingAt qe_X8_writingAt (s_iload dX11_fits_56 (s_invB (w' := (g, d, ck, sk, xX11_fits, Q)) (ci := 11) (ck := 0) (sk := 0) (T := TX11) (N := 17) dX11_fits_58 m_X11_isAsNoted rfl (by decide) qm_X11_345 qi_X11_isAsNoted qe_X11_isAsNoted rfl (s_ifeq (tgt := 81) dX11_fits_61 (by decide) (s_iinc dX11_fits_81 (by decide : 4 < 5) (s_goto (tgt := 35) dX11_fits_84 (by decide) (sk_id))) (s_iload_n dX11_fits_64 rfl (s_iload_n dX11_fits_65 rfl (s_icne (tgt := 78) dX11_fits_66 (by decide) (s_iinc dX11_fits_78 (by decide : 2 < 5) (s_iinc dX11_fits_81 (by decide : 4 < 5) (s_goto (tgt := 35) dX11_fits_84 (by decide) (sk_id)))) (s_sipush dX11_fits_69 rfl (s_iload_n dX11_fits_72 rfl (s_imul dX11_fits_73 (s_iload dX11_fits_74 (s_iadd dX11_fits_76 (s_iret dX11_fits_77 rfl)))))))))))))))))))))
theorem dX11_isAsNoted_0 : decode cX11_isAsNoted 0 = .ok (.aload_n 0, 1) := by decide +kernel
theorem dX11_isAsNoted_1 : decode cX11_isAsNoted 1 = .ok (.getfield 19, 3) := by decide +kernel
theorem dX11_isAsNoted_4 : decode cX11_isAsNoted 4 = .ok (.aload_n 1, 1) := by decide +kernel
theorem dX11_isAsNoted_5 : decode cX11_isAsNoted 5 = .ok (.iload_n 2, 1) := by decide +kernel
theorem dX11_isAsNoted_6 : decode cX11_isAsNoted 6 = .ok (.invokevirtual 202, 3) := by decide +kernel
theorem dX11_isAsNoted_9 : decode cX11_isAsNoted 9 = .ok (.ifCond .ne 5, 3) := by decide +kernel
theorem dX11_isAsNoted_12 : decode cX11_isAsNoted 12 = .ok (.iconst 0, 1) := by decide +kernel
theorem dX11_isAsNoted_13 : decode cX11_isAsNoted 13 = .ok (.ireturn, 1) := by decide +kernel
theorem dX11_isAsNoted_14 : decode cX11_isAsNoted 14 = .ok (.iconst 0, 1) := by decide +kernel
theorem dX11_isAsNoted_15 : decode cX11_isAsNoted 15 = .ok (.istore_n 3, 1) := by decide +kernel
theorem dX11_isAsNoted_16 : decode cX11_isAsNoted 16 = .ok (.iload_n 3, 1) := by decide +kernel
theorem dX11_isAsNoted_17 : decode cX11_isAsNoted 17 = .ok (.aload_n 0, 1) := by decide +kernel
theorem dX11_isAsNoted_18 : decode cX11_isAsNoted 18 = .ok (.getfield 60, 3) := by decide +kernel
theorem dX11_isAsNoted_21 : decode cX11_isAsNoted 21 = .ok (.getfield 412, 3) := by decide +kernel
theorem dX11_isAsNoted_24 : decode cX11_isAsNoted 24 = .ok (.if_icmp .ge 62, 3) := by decide +kernel
theorem dX11_isAsNoted_27 : decode cX11_isAsNoted 27 = .ok (.aload_n 0, 1) := by decide +kernel
theorem dX11_isAsNoted_28 : decode cX11_isAsNoted 28 = .ok (.getfield 19, 3) := by decide +kernel
theorem dX11_isAsNoted_31 : decode cX11_isAsNoted 31 = .ok (.aload_n 1, 1) := by decide +kernel
theorem dX11_isAsNoted_32 : decode cX11_isAsNoted 32 = .ok (.iload_n 2, 1) := by decide +kernel
theorem dX11_isAsNoted_33 : decode cX11_isAsNoted 33 = .ok (.aload_n 0, 1) := by decide +kernel
theorem dX11_isAsNoted_34 : decode cX11_isAsNoted 34 = .ok (.getfield 60, 3) := by decide +kernel
theorem dX11_isAsNoted_37 : decode cX11_isAsNoted 37 = .ok (.getfield 479, 3) := by decide +kernel
theorem dX11_isAsNoted_40 : decode cX11_isAsNoted 40 = .ok (.iload_n 3, 1) := by decide +kernel
theorem dX11_isAsNoted_41 : decode cX11_isAsNoted 41 = .ok (.iaload, 1) := by decide +kernel
theorem dX11_isAsNoted_42 : decode cX11_isAsNoted 42 = .ok (.invokevirtual 481, 3) := by decide +kernel
theorem dX11_isAsNoted_45 : decode cX11_isAsNoted 45 = .ok (.aload_n 0, 1) := by decide +kernel
theorem dX11_isAsNoted_46 : decode cX11_isAsNoted 46 = .ok (.getfield 60, 3) := by decide +kernel
theorem dX11_isAsNoted_49 : decode cX11_isAsNoted 49 = .ok (.getfield 484, 3) := by decide +kernel
theorem dX11_isAsNoted_52 : decode cX11_isAsNoted 52 = .ok (.iload_n 3, 1) := by decide +kernel
theorem dX11_isAsNoted_53 : decode cX11_isAsNoted 53 = .ok (.iaload, 1) := by decide +kernel
theorem dX11_isAsNoted_54 : decode cX11_isAsNoted 54 = .ok (.if_icmp .ne 7, 3) := by decide +kernel
theorem dX11_isAsNoted_57 : decode cX11_isAsNoted 57 = .ok (.iconst 1, 1) := by decide +kernel
theorem dX11_isAsNoted_58 : decode cX11_isAsNoted 58 = .ok (.goto 4, 3) := by decide +kernel
theorem dX11_isAsNoted_61 : decode cX11_isAsNoted 61 = .ok (.iconst 0, 1) := by decide +kernel
theorem dX11_isAsNoted_62 : decode cX11_isAsNoted 62 = .ok (.istore 4, 2) := by decide +kernel
theorem dX11_isAsNoted_64 : decode cX11_isAsNoted 64 = .ok (.iload 4, 2) := by decide +kernel
theorem dX11_isAsNoted_66 : decode cX11_isAsNoted 66 = .ok (.aload_n 0, 1) := by decide +kernel
theorem dX11_isAsNoted_67 : decode cX11_isAsNoted 67 = .ok (.getfield 60, 3) := by decide +kernel
theorem dX11_isAsNoted_70 : decode cX11_isAsNoted 70 = .ok (.getfield 487, 3) := by decide +kernel
theorem dX11_isAsNoted_73 : decode cX11_isAsNoted 73 = .ok (.iload_n 3, 1) := by decide +kernel
theorem dX11_isAsNoted_74 : decode cX11_isAsNoted 74 = .ok (.baload, 1) := by decide +kernel
theorem dX11_isAsNoted_75 : decode cX11_isAsNoted 75 = .ok (.if_icmp .eq 5, 3) := by decide +kernel
theorem dX11_isAsNoted_78 : decode cX11_isAsNoted 78 = .ok (.iconst 0, 1) := by decide +kernel
theorem dX11_isAsNoted_79 : decode cX11_isAsNoted 79 = .ok (.ireturn, 1) := by decide +kernel
theorem dX11_isAsNoted_80 : decode cX11_isAsNoted 80 = .ok (.iinc 3 1, 3) := by decide +kernel
theorem dX11_isAsNoted_83 : decode cX11_isAsNoted 83 = .ok (.goto (-67), 3) := by decide +kernel
theorem dX11_isAsNoted_86 : decode cX11_isAsNoted 86 = .ok (.iconst 1, 1) := by decide +kernel
theorem dX11_isAsNoted_87 : decode cX11_isAsNoted 87 = .ok (.ireturn, 1) := by decide +kernel
def kX11_isAsNoted_0 (g : sk_G) (d ck sk : Nat) (Q : sk_P) : sk_K := o_aload 0 (o_getf 11 1 (o_aload 1 (o_iload 2 (o_invB (g, d, ck, sk, xX11_isAsNoted, Q) xX7_does 2 7 0 0 (o_ifne (o_i (0) (o_istore 3 (sk_B (g, d, ck, sk, xX11_isAsNoted, Q) 16))) (o_i (0) (o_zret (g, d, ck, sk, xX11_isAsNoted, Q))))))))
theorem tX11_isAsNoted_0 {g : sk_G} {d ck sk : Nat} {Q : sk_P} : sk_S (g, d, ck, sk, xX11_isAsNoted, Q) 0 (kX11_isAsNoted_0 g d ck sk Q) := s_aload_n dX11_isAsNoted_0 rfl (s_getf (ci := 11) (j := 1) (C := RX11) (T := TX11) (N := 17) dX11_isAsNoted_1 rfl (by decide) (by decide) qf_X11_19 (s_aload_n dX11_isAsNoted_4 rfl (s_iload_n dX11_isAsNoted_5 rfl (s_invB (w' := (g, d, ck, sk, xX11_isAsNoted, Q)) (ci := 7) (ck := 0) (sk := 0) (T := TX7) (N := 4) dX11_isAsNoted_6 m_X7_does rfl (by decide) qm_X11_202 qi_X7_does qe_X7_does rfl (s_ifne (tgt := 14) dX11_isAsNoted_9 (by decide) (s_iconst dX11_isAsNoted_14 (s_istore_n dX11_isAsNoted_15 rfl (by decide : 3 < 5) (sk_id))) (s_iconst dX11_isAsNoted_12 (s_zret dX11_isAsNoted_13 rfl)))))))
set_option maxRecDepth 20000 in
def kX11_isAsNoted_16 (g : sk_G) (d ck sk : Nat) (Q : sk_P) : sk_K := o_iload 3 (o_aload 0 (o_getf 11 8 (o_getf 4 3 (o_icge (o_i (1) (o_zret (g, d, ck, sk, xX11_isAsNoted, Q))) (o_aload 0 (o_getf 11 1 (o_aload 1 (o_iload 2 (o_aload 0 (o_getf 11 8 (o_getf 4 0 (o_iload 3 (o_iaload (o_invB (g, d, ck, sk, xX11_isAsNoted, Q) xX7_letterAt 3 7 0 0 (o_aload 0 (o_getf 11 8 (o_getf 4 1 (o_iload 3 (o_iaload (o_icne (o_i (0) (sk_B (g, d, ck, sk, xX11_isAsNoted, Q) 62)) (o_i (1) (sk_B (g, d, ck, sk, xX11_isAsNoted, Q) 62))))))))))))))))))))))
set_option maxRecDepth 20000 in
theorem tX11_isAsNoted_16 {g : sk_G} {d ck sk : Nat} {Q : sk_P} : sk_S (g, d, ck, sk, xX11_isAsNoted, Q) 16 (kX11_isAsNoted_16 g d ck sk Q) := s_iload_n dX11_isAsNoted_16 rfl (s_aload_n dX11_isAsNoted_17 rfl (s_getf (ci := 11) (j := 8) (C := RX11) (T := TX11) (N := 17) dX11_isAsNoted_18 rfl (by decide) (by decide) qf_X11_60 (s_getfN (ci := 4) (j := 3) (C := RX4) (T := TX4) (N := 4) dX11_isAsNoted_21 rfl (by decide) (by decide) qn_X11_412 (s_icge (tgt := 86) dX11_isAsNoted_24 (by decide) (s_iconst dX11_isAsNoted_86 (s_zret dX11_isAsNoted_87 rfl)) (s_aload_n dX11_isAsNoted_27 rfl (s_getf (ci := 11) (j := 1) (C := RX11) (T := TX11) (N := 17) dX11_isAsNoted_28 rfl (by decide) (by decide) qf_X11_19 (s_aload_n dX11_isAsNoted_31 rfl (s_iload_n dX11_isAsNoted_32 rfl (s_aload_n dX11_isAsNoted_33 rfl (s_getf (ci := 11) (j := 8) (C := RX11) (T := TX11) (N := 17) dX11_isAsNoted_34 rfl (by decide) (by decide) qf_X11_60 (s_getfN (ci := 4) (j := 0) (C := RX4) (T := TX4) (N := 4) dX11_isAsNoted_37 rfl (by decide) (by decide) qn_X11_479 (s_iload_n dX11_isAsNoted_40 rfl (s_iaload dX11_isAsNoted_41 (s_invB (w' := (g, d, ck, sk, xX11_isAsNoted, Q)) (ci := 7) (ck := 0) (sk := 0) (T := TX7) (N := 4) dX11_isAsNoted_42 m_X7_letterAt rfl (by decide) qm_X11_481 qi_X7_letterAt qe_X7_letterAt rfl (s_aload_n dX11_isAsNoted_45 rfl (s_getf (ci := 11) (j := 8) (C := RX11) (T := TX11) (N := 17) dX11_isAsNoted_46 rfl (by decide) (by decide) qf_X11_60 (s_getfN (ci := 4) (j := 1) (C := RX4) (T := TX4) (N := 4) dX11_isAsNoted_49 rfl (by decide) (by decide) qn_X11_484 (s_iload_n dX11_isAsNoted_52 rfl (s_iaload dX11_isAsNoted_53 (s_icne (tgt := 61) dX11_isAsNoted_54 (by decide) (s_iconst dX11_isAsNoted_61 (sk_id)) (s_iconst dX11_isAsNoted_57 (s_goto (tgt := 62) dX11_isAsNoted_58 (by decide) (sk_id)))))))))))))))))))))))
def kX11_isAsNoted_62 (g : sk_G) (d ck sk : Nat) (Q : sk_P) : sk_K := o_istore 4 (o_iload 4 (o_aload 0 (o_getf 11 8 (o_getf 4 2 (o_iload 3 (o_baload (o_iceq (o_iinc 3 (1) (sk_B (g, d, ck, sk, xX11_isAsNoted, Q) 16)) (o_i (0) (o_zret (g, d, ck, sk, xX11_isAsNoted, Q))))))))))
theorem tX11_isAsNoted_62 {g : sk_G} {d ck sk : Nat} {Q : sk_P} : sk_S (g, d, ck, sk, xX11_isAsNoted, Q) 62 (kX11_isAsNoted_62 g d ck sk Q) := s_istore dX11_isAsNoted_62 (by decide : 4 < 5) (s_iload dX11_isAsNoted_64 (s_aload_n dX11_isAsNoted_66 rfl (s_getf (ci := 11) (j := 8) (C := RX11) (T := TX11) (N := 17) dX11_isAsNoted_67 rfl (by decide) (by decide) qf_X11_60 (s_getfN (ci := 4) (j := 2) (C := RX4) (T := TX4) (N := 4) dX11_isAsNoted_70 rfl (by decide) (by decide) qn_X11_487 (s_iload_n dX11_isAsNoted_73 rfl (s_baload dX11_isAsNoted_74 (s_iceq (tgt := 80) dX11_isAsNoted_75 (by decide) (s_iinc dX11_isAsNoted_80 (by decide : 3 < 5) (s_goto (tgt := 16) dX11_isAsNoted_83 (by decide) (sk_id))) (s_iconst dX11_isAsNoted_78 (s_zret dX11_isAsNoted_79 rfl)))))))))
theorem dX11_ask_0 : decode cX11_ask 0 = .ok (.aload_n 0, 1) := by decide +kernel
theorem dX11_ask_1 : decode cX11_ask 1 = .ok (.getfield 82, 3) := by decide +kernel
theorem dX11_ask_4 : decode cX11_ask 4 = .ok (.iconst 0, 1) := by decide +kernel
theorem dX11_ask_5 : decode cX11_ask 5 = .ok (.invokestatic 348, 3) := by decide +kernel
theorem dX11_ask_8 : decode cX11_ask 8 = .ok (.iconst 0, 1) := by decide +kernel
theorem dX11_ask_9 : decode cX11_ask 9 = .ok (.istore_n 1, 1) := by decide +kernel
theorem dX11_ask_10 : decode cX11_ask 10 = .ok (.iconst 0, 1) := by decide +kernel
theorem dX11_ask_11 : decode cX11_ask 11 = .ok (.istore_n 2, 1) := by decide +kernel
theorem dX11_ask_12 : decode cX11_ask 12 = .ok (.iload_n 2, 1) := by decide +kernel
theorem dX11_ask_13 : decode cX11_ask 13 = .ok (.aload_n 0, 1) := by decide +kernel
theorem dX11_ask_14 : decode cX11_ask 14 = .ok (.getfield 29, 3) := by decide +kernel
theorem dX11_ask_17 : decode cX11_ask 17 = .ok (.getfield 342, 3) := by decide +kernel
theorem dX11_ask_20 : decode cX11_ask 20 = .ok (.if_icmp .ge 59, 3) := by decide +kernel
theorem dX11_ask_23 : decode cX11_ask 23 = .ok (.aload_n 0, 1) := by decide +kernel
theorem dX11_ask_24 : decode cX11_ask 24 = .ok (.getfield 29, 3) := by decide +kernel
theorem dX11_ask_27 : decode cX11_ask 27 = .ok (.iload_n 2, 1) := by decide +kernel
theorem dX11_ask_28 : decode cX11_ask 28 = .ok (.invokevirtual 171, 3) := by decide +kernel
theorem dX11_ask_31 : decode cX11_ask 31 = .ok (.astore_n 3, 1) := by decide +kernel
theorem dX11_ask_32 : decode cX11_ask 32 = .ok (.iconst 0, 1) := by decide +kernel
theorem dX11_ask_33 : decode cX11_ask 33 = .ok (.istore 4, 2) := by decide +kernel
theorem dX11_ask_35 : decode cX11_ask 35 = .ok (.iload 4, 2) := by decide +kernel
theorem dX11_ask_37 : decode cX11_ask 37 = .ok (.aload_n 0, 1) := by decide +kernel
theorem dX11_ask_38 : decode cX11_ask 38 = .ok (.getfield 19, 3) := by decide +kernel
theorem dX11_ask_41 : decode cX11_ask 41 = .ok (.invokevirtual 275, 3) := by decide +kernel
theorem dX11_ask_44 : decode cX11_ask 44 = .ok (.if_icmp .ge 29, 3) := by decide +kernel
theorem dX11_ask_47 : decode cX11_ask 47 = .ok (.aload_n 0, 1) := by decide +kernel
theorem dX11_ask_48 : decode cX11_ask 48 = .ok (.aload_n 3, 1) := by decide +kernel
theorem dX11_ask_49 : decode cX11_ask 49 = .ok (.iload 4, 2) := by decide +kernel
theorem dX11_ask_51 : decode cX11_ask 51 = .ok (.invokevirtual 345, 3) := by decide +kernel
theorem dX11_ask_54 : decode cX11_ask 54 = .ok (.ifCond .eq 13, 3) := by decide +kernel
theorem dX11_ask_57 : decode cX11_ask 57 = .ok (.iinc 1 1, 3) := by decide +kernel
theorem dX11_ask_60 : decode cX11_ask 60 = .ok (.aload_n 0, 1) := by decide +kernel
theorem dX11_ask_61 : decode cX11_ask 61 = .ok (.aload_n 3, 1) := by decide +kernel
theorem dX11_ask_62 : decode cX11_ask 62 = .ok (.iload 4, 2) := by decide +kernel
theorem dX11_ask_64 : decode cX11_ask 64 = .ok (.invokevirtual 354, 3) := by decide +kernel
theorem dX11_ask_67 : decode cX11_ask 67 = .ok (.iinc 4 1, 3) := by decide +kernel
theorem dX11_ask_70 : decode cX11_ask 70 = .ok (.goto (-35), 3) := by decide +kernel
theorem dX11_ask_73 : decode cX11_ask 73 = .ok (.iinc 2 1, 3) := by decide +kernel
theorem dX11_ask_76 : decode cX11_ask 76 = .ok (.goto (-64), 3) := by decide +kernel
theorem dX11_ask_79 : decode cX11_ask 79 = .ok (.iload_n 1, 1) := by decide +kernel
theorem dX11_ask_80 : decode cX11_ask 80 = .ok (.ifCond .ne 7, 3) := by decide +kernel
theorem dX11_ask_83 : decode cX11_ask 83 = .ok (.iconst (-1), 1) := by decide +kernel
theorem dX11_ask_84 : decode cX11_ask 84 = .ok (.goto 8, 3) := by decide +kernel
theorem dX11_ask_87 : decode cX11_ask 87 = .ok (.aload_n 0, 1) := by decide +kernel
theorem dX11_ask_88 : decode cX11_ask 88 = .ok (.iload_n 1, 1) := by decide +kernel
theorem dX11_ask_89 : decode cX11_ask 89 = .ok (.invokevirtual 358, 3) := by decide +kernel
theorem dX11_ask_92 : decode cX11_ask 92 = .ok (.ireturn, 1) := by decide +kernel
def kX11_ask_0 (g : sk_G) (d ck sk : Nat) (Q : sk_P) : sk_K := o_aload 0 (o_getf 11 12 (o_i (0) (o_stcB (g, d, ck, sk, xX11_ask, Q) xJ7_fill_53178 2 0 0 (o_i (0) (o_istore 1 (o_i (0) (o_istore 2 (sk_B (g, d, ck, sk, xX11_ask, Q) 12))))))))
theorem tX11_ask_0 {g : sk_G} {d ck sk : Nat} {Q : sk_P} : sk_S (g, d, ck, sk, xX11_ask, Q) 0 (kX11_ask_0 g d ck sk Q) := s_aload_n dX11_ask_0 rfl (s_getf (ci := 11) (j := 12) (C := RX11) (T := TX11) (N := 17) dX11_ask_1 rfl (by decide) (by decide) qf_X11_82 (s_iconst dX11_ask_4 (s_stcB (w' := (g, d, ck, sk, xX11_ask, Q)) (ck := 0) (sk := 0) dX11_ask_5 m_J7_fill_53178 qm_X11_348 qs_J7_fill_53178 rfl (s_iconst dX11_ask_8 (s_istore_n dX11_ask_9 rfl (by decide : 1 < 5) (s_iconst dX11_ask_10 (s_istore_n dX11_ask_11 rfl (by decide : 2 < 5) (sk_id))))))))
set_option maxRecDepth 20000 in
def kX11_ask_12 (g : sk_G) (d ck sk : Nat) (Q : sk_P) : sk_K := o_iload 2 (o_aload 0 (o_getf 11 3 (o_getf 8 5 (o_icge (o_iload 1 (o_ifne (o_aload 0 (o_iload 1 (o_invB (g, d, ck, sk, xX11_ask, Q) xX11_tellingCell 1 11 0 0 (o_iret (g, d, ck, sk, xX11_ask, Q))))) (o_i (-1) (o_iret (g, d, ck, sk, xX11_ask, Q))))) (o_aload 0 (o_getf 11 3 (o_iload 2 (o_invT (g, d, ck, sk, xX11_ask, Q) 2 1 8 (fun Q => kX8_writingAt_0 g (d - 1) 0 0 Q) (o_astore 3 (o_i (0) (o_istore 4 (sk_B (g, d, ck, sk, xX11_ask, Q) 35))))))))))))
set_option maxRecDepth 20000 in
theorem tX11_ask_12 {g : sk_G} {d ck sk : Nat} {Q : sk_P} : sk_S (g, d, ck, sk, xX11_ask, Q) 12 (kX11_ask_12 g d ck sk Q) := s_iload_n dX11_ask_12 rfl (s_aload_n dX11_ask_13 rfl (s_getf (ci := 11) (j := 3) (C := RX11) (T := TX11) (N := 17) dX11_ask_14 rfl (by decide) (by decide) qf_X11_29 (s_getfN (ci := 8) (j := 5) (C := RX8) (T := TX8) (N := 7) dX11_ask_17 rfl (by decide) (by decide) qn_X11_342 (s_icge (tgt := 79) dX11_ask_20 (by decide) (s_iload_n dX11_ask_79 rfl (s_ifne (tgt := 87) dX11_ask_80 (by decide) (s_aload_n dX11_ask_87 rfl (s_iload_n dX11_ask_88 rfl (s_invB (w' := (g, d, ck, sk, xX11_ask, Q)) (ci := 11) (ck := 0) (sk := 0) (T := TX11) (N := 17) dX11_ask_89 m_X11_tellingCell rfl (by decide) qm_X11_358 qi_X11_tellingCell qe_X11_tellingCell rfl (s_iret dX11_ask_92 rfl)))) (s_iconst dX11_ask_83 (s_goto (tgt := 92) dX11_ask_84 (by decide) (s_iret dX11_ask_92 rfl))))) (s_aload_n dX11_ask_23 rfl (s_getf (ci := 11) (j := 3) (C := RX11) (T := TX11) (N := 17) dX11_ask_24 rfl (by decide) (by decide) qf_X11_29 (s_iload_n dX11_ask_27 rfl (s_invT (X := xX8_writingAt) (ci := 8) (T := TX8) (N := 7) (K := (fun Q => kX8_writingAt_0 g (d - 1) 0 0 Q)) (fun _ => tX8_writingAt_0) rfl dX11_ask_28 m_X8_writingAt rfl (by decide) qm_X11_171 qi_X8_writingAt qe_X8_writingAt (s_astore_n dX11_ask_31 rfl (by decide : 3 < 5) (s_iconst dX11_ask_32 (s_istore dX11_ask_33 (by decide : 4 < 5) (sk_id))))))))))))
set_option maxRecDepth 20000 in
def kX11_ask_35 (g : sk_G) (d ck sk : Nat) (Q : sk_P) : sk_K := o_iload 4 (o_aload 0 (o_getf 11 1 (o_invT (g, d, ck, sk, xX11_ask, Q) 1 0 7 (fun Q => kX7_spots_0 g (d - 1) 0 0 Q) (o_icge (o_iinc 2 (1) (sk_B (g, d, ck, sk, xX11_ask, Q) 12)) (o_aload 0 (o_aload 3 (o_iload 4 (o_invB (g, d, ck, sk, xX11_ask, Q) xX11_isAsNoted 2 11 0 0 (o_ifeq (o_iinc 4 (1) (sk_B (g, d, ck, sk, xX11_ask, Q) 35)) (o_iinc 1 (1) (o_aload 0 (o_aload 3 (o_iload 4 (o_invB (g, d, ck, sk, xX11_ask, Q) xX11_tallyLetters 2 11 0 0 (o_iinc 4 (1) (sk_B (g, d, ck, sk, xX11_ask, Q) 35))))))))))))))))
set_option maxRecDepth 20000 in
theorem tX11_ask_35 {g : sk_G} {d ck sk : Nat} {Q : sk_P} : sk_S (g, d, ck, sk, xX11_ask, Q) 35 (kX11_ask_35 g d ck sk Q) := s_iload dX11_ask_35 (s_aload_n dX11_ask_37 rfl (s_getf (ci := 11) (j := 1) (C := RX11) (T := TX11) (N := 17) dX11_ask_38 rfl (by decide) (by decide) qf_X11_19 (s_invT (X := xX7_spots) (ci := 7) (T := TX7) (N := 4) (K := (fun Q => kX7_spots_0 g (d - 1) 0 0 Q)) (fun _ => tX7_spots_0) rfl dX11_ask_41 m_X7_spots rfl (by decide) qm_X11_275 qi_X7_spots qe_X7_spots (s_icge (tgt := 73) dX11_ask_44 (by decide) (s_iinc dX11_ask_73 (by decide : 2 < 5) (s_goto (tgt := 12) dX11_ask_76 (by decide) (sk_id))) (s_aload_n dX11_ask_47 rfl (s_aload_n dX11_ask_48 rfl (s_iload dX11_ask_49 (s_invB (w' := (g, d, ck, sk, xX11_ask, Q)) (ci := 11) (ck := 0) (sk := 0) (T := TX11) (N := 17) dX11_ask_51 m_X11_isAsNoted rfl (by decide) qm_X11_345 qi_X11_isAsNoted qe_X11_isAsNoted rfl (s_ifeq (tgt := 67) dX11_ask_54 (by decide) (s_iinc dX11_ask_67 (by decide : 4 < 5) (s_goto (tgt := 35) dX11_ask_70 (by decide) (sk_id))) (s_iinc dX11_ask_57 (by decide : 1 < 5) (s_aload_n dX11_ask_60 rfl (s_aload_n dX11_ask_61 rfl (s_iload dX11_ask_62 (s_invB (w' := (g, d, ck, sk, xX11_ask, Q)) (ci := 11) (ck := 0) (sk := 0) (T := TX11) (N := 17) dX11_ask_64 m_X11_tallyLetters rfl (by decide) qm_X11_354 qi_X11_tallyLetters qe_X11_tallyLetters rfl (s_iinc dX11_ask_67 (by decide : 4 < 5) (s_goto (tgt := 35) dX11_ask_70 (by decide) (sk_id)))))))))))))))))
theorem dX11_tallyLetters_0 : decode cX11_tallyLetters 0 = .ok (.iconst 0, 1) := by decide +kernel
theorem dX11_tallyLetters_1 : decode cX11_tallyLetters 1 = .ok (.istore_n 3, 1) := by decide +kernel
theorem dX11_tallyLetters_2 : decode cX11_tallyLetters 2 = .ok (.iload_n 3, 1) := by decide +kernel
theorem dX11_tallyLetters_3 : decode cX11_tallyLetters 3 = .ok (.aload_n 1, 1) := by decide +kernel
theorem dX11_tallyLetters_4 : decode cX11_tallyLetters 4 = .ok (.getfield 305, 3) := by decide +kernel
theorem dX11_tallyLetters_7 : decode cX11_tallyLetters 7 = .ok (.if_icmp .ge 46, 3) := by decide +kernel
theorem dX11_tallyLetters_10 : decode cX11_tallyLetters 10 = .ok (.aload_n 1, 1) := by decide +kernel
theorem dX11_tallyLetters_11 : decode cX11_tallyLetters 11 = .ok (.iload_n 3, 1) := by decide +kernel
theorem dX11_tallyLetters_12 : decode cX11_tallyLetters 12 = .ok (.invokevirtual 312, 3) := by decide +kernel
theorem dX11_tallyLetters_15 : decode cX11_tallyLetters 15 = .ok (.ifCond .eq 32, 3) := by decide +kernel
theorem dX11_tallyLetters_18 : decode cX11_tallyLetters 18 = .ok (.aload_n 0, 1) := by decide +kernel
theorem dX11_tallyLetters_19 : decode cX11_tallyLetters 19 = .ok (.getfield 82, 3) := by decide +kernel
theorem dX11_tallyLetters_22 : decode cX11_tallyLetters 22 = .ok (.aload_n 0, 1) := by decide +kernel
theorem dX11_tallyLetters_23 : decode cX11_tallyLetters 23 = .ok (.getfield 19, 3) := by decide +kernel
theorem dX11_tallyLetters_26 : decode cX11_tallyLetters 26 = .ok (.aload_n 1, 1) := by decide +kernel
theorem dX11_tallyLetters_27 : decode cX11_tallyLetters 27 = .ok (.iload_n 3, 1) := by decide +kernel
theorem dX11_tallyLetters_28 : decode cX11_tallyLetters 28 = .ok (.iload_n 2, 1) := by decide +kernel
theorem dX11_tallyLetters_29 : decode cX11_tallyLetters 29 = .ok (.invokevirtual 308, 3) := by decide +kernel
theorem dX11_tallyLetters_32 : decode cX11_tallyLetters 32 = .ok (.bipush 27, 2) := by decide +kernel
theorem dX11_tallyLetters_34 : decode cX11_tallyLetters 34 = .ok (.imul, 1) := by decide +kernel
theorem dX11_tallyLetters_35 : decode cX11_tallyLetters 35 = .ok (.aload_n 1, 1) := by decide +kernel
theorem dX11_tallyLetters_36 : decode cX11_tallyLetters 36 = .ok (.getfield 315, 3) := by decide +kernel
theorem dX11_tallyLetters_39 : decode cX11_tallyLetters 39 = .ok (.iload_n 3, 1) := by decide +kernel
theorem dX11_tallyLetters_40 : decode cX11_tallyLetters 40 = .ok (.iaload, 1) := by decide +kernel
theorem dX11_tallyLetters_41 : decode cX11_tallyLetters 41 = .ok (.iadd, 1) := by decide +kernel
theorem dX11_tallyLetters_42 : decode cX11_tallyLetters 42 = .ok (.dup2, 1) := by decide +kernel
theorem dX11_tallyLetters_43 : decode cX11_tallyLetters 43 = .ok (.iaload, 1) := by decide +kernel
theorem dX11_tallyLetters_44 : decode cX11_tallyLetters 44 = .ok (.iconst 1, 1) := by decide +kernel
theorem dX11_tallyLetters_45 : decode cX11_tallyLetters 45 = .ok (.iadd, 1) := by decide +kernel
theorem dX11_tallyLetters_46 : decode cX11_tallyLetters 46 = .ok (.iastore, 1) := by decide +kernel
theorem dX11_tallyLetters_47 : decode cX11_tallyLetters 47 = .ok (.iinc 3 1, 3) := by decide +kernel
theorem dX11_tallyLetters_50 : decode cX11_tallyLetters 50 = .ok (.goto (-48), 3) := by decide +kernel
theorem dX11_tallyLetters_53 : decode cX11_tallyLetters 53 = .ok (.return_, 1) := by decide +kernel
def kX11_tallyLetters_0 (g : sk_G) (d ck sk : Nat) (Q : sk_P) : sk_K := o_i (0) (o_istore 3 (sk_B (g, d, ck, sk, xX11_tallyLetters, Q) 2))
theorem tX11_tallyLetters_0 {g : sk_G} {d ck sk : Nat} {Q : sk_P} : sk_S (g, d, ck, sk, xX11_tallyLetters, Q) 0 (kX11_tallyLetters_0 g d ck sk Q) := s_iconst dX11_tallyLetters_0 (s_istore_n dX11_tallyLetters_1 rfl (by decide : 3 < 4) (sk_id))
set_option maxRecDepth 20000 in
def kX11_tallyLetters_2 (g : sk_G) (d ck sk : Nat) (Q : sk_P) : sk_K := o_iload 3 (o_aload 1 (o_getf 10 5 (o_icge (o_ret (g, d, ck, sk, xX11_tallyLetters, Q)) (o_aload 1 (o_iload 3 (o_invT (g, d, ck, sk, xX11_tallyLetters, Q) 2 1 10 (fun Q => kX10_isLetter_0 g (d - 1) 0 0 Q) (o_ifeq (o_iinc 3 (1) (sk_B (g, d, ck, sk, xX11_tallyLetters, Q) 2)) (o_aload 0 (o_getf 11 12 (o_aload 0 (o_getf 11 1 (o_aload 1 (o_iload 3 (o_iload 2 (o_invB (g, d, ck, sk, xX11_tallyLetters, Q) xX7_cellOf 3 7 0 0 (o_i (27) (o_imul (o_aload 1 (o_getf 10 0 (o_iload 3 (o_iaload (o_iadd (o_dup2 (o_iaload (o_i (1) (o_iadd (o_iastore (o_iinc 3 (1) (sk_B (g, d, ck, sk, xX11_tallyLetters, Q) 2)))))))))))))))))))))))))))))
set_option maxRecDepth 20000 in
theorem tX11_tallyLetters_2 {g : sk_G} {d ck sk : Nat} {Q : sk_P} : sk_S (g, d, ck, sk, xX11_tallyLetters, Q) 2 (kX11_tallyLetters_2 g d ck sk Q) := s_iload_n dX11_tallyLetters_2 rfl (s_aload_n dX11_tallyLetters_3 rfl (s_getfN (ci := 10) (j := 5) (C := RX10) (T := TX10) (N := 9) dX11_tallyLetters_4 rfl (by decide) (by decide) qn_X11_305 (s_icge (tgt := 53) dX11_tallyLetters_7 (by decide) (s_ret dX11_tallyLetters_53 rfl) (s_aload_n dX11_tallyLetters_10 rfl (s_iload_n dX11_tallyLetters_11 rfl (s_invT (X := xX10_isLetter) (ci := 10) (T := TX10) (N := 9) (K := (fun Q => kX10_isLetter_0 g (d - 1) 0 0 Q)) (fun _ => tX10_isLetter_0) rfl dX11_tallyLetters_12 m_X10_isLetter rfl (by decide) qm_X11_312 qi_X10_isLetter qe_X10_isLetter (s_ifeq (tgt := 47) dX11_tallyLetters_15 (by decide) (s_iinc dX11_tallyLetters_47 (by decide : 3 < 4) (s_goto (tgt := 2) dX11_tallyLetters_50 (by decide) (sk_id))) (s_aload_n dX11_tallyLetters_18 rfl (s_getf (ci := 11) (j := 12) (C := RX11) (T := TX11) (N := 17) dX11_tallyLetters_19 rfl (by decide) (by decide) qf_X11_82 (s_aload_n dX11_tallyLetters_22 rfl (s_getf (ci := 11) (j := 1) (C := RX11) (T := TX11) (N := 17) dX11_tallyLetters_23 rfl (by decide) (by decide) qf_X11_19 (s_aload_n dX11_tallyLetters_26 rfl (s_iload_n dX11_tallyLetters_27 rfl (s_iload_n dX11_tallyLetters_28 rfl (s_invB (w' := (g, d, ck, sk, xX11_tallyLetters, Q)) (ci := 7) (ck := 0) (sk := 0) (T := TX7) (N := 4) dX11_tallyLetters_29 m_X7_cellOf rfl (by decide) qm_X11_308 qi_X7_cellOf qe_X7_cellOf rfl (s_bipush dX11_tallyLetters_32 rfl (s_imul dX11_tallyLetters_34 (s_aload_n dX11_tallyLetters_35 rfl (s_getfN (ci := 10) (j := 0) (C := RX10) (T := TX10) (N := 9) dX11_tallyLetters_36 rfl (by decide) (by decide) qn_X11_315 (s_iload_n dX11_tallyLetters_39 rfl (s_iaload dX11_tallyLetters_40 (s_iadd dX11_tallyLetters_41 (s_dup2 dX11_tallyLetters_42 (s_iaload dX11_tallyLetters_43 (s_iconst dX11_tallyLetters_44 (s_iadd dX11_tallyLetters_45 (s_iastore dX11_tallyLetters_46 (s_iinc dX11_tallyLetters_47 (by decide : 3 < 4) (s_goto (tgt := 2) dX11_tallyLetters_50 (by decide) (sk_id))))))))))))))))))))))))))))))
theorem dX11_tellingCell_0 : decode cX11_tellingCell 0 = .ok (.iload_n 1, 1) := by decide +kernel
theorem dX11_tellingCell_1 : decode cX11_tellingCell 1 = .ok (.iconst 1, 1) := by decide +kernel
theorem dX11_tellingCell_2 : decode cX11_tellingCell 2 = .ok (.iadd, 1) := by decide +kernel
theorem dX11_tellingCell_3 : decode cX11_tellingCell 3 = .ok (.istore_n 2, 1) := by decide +kernel
theorem dX11_tellingCell_4 : decode cX11_tellingCell 4 = .ok (.iconst (-1), 1) := by decide +kernel
theorem dX11_tellingCell_5 : decode cX11_tellingCell 5 = .ok (.istore_n 3, 1) := by decide +kernel
theorem dX11_tellingCell_6 : decode cX11_tellingCell 6 = .ok (.iconst 0, 1) := by decide +kernel
theorem dX11_tellingCell_7 : decode cX11_tellingCell 7 = .ok (.istore 4, 2) := by decide +kernel
theorem dX11_tellingCell_9 : decode cX11_tellingCell 9 = .ok (.iload 4, 2) := by decide +kernel
theorem dX11_tellingCell_11 : decode cX11_tellingCell 11 = .ok (.aload_n 0, 1) := by decide +kernel
theorem dX11_tellingCell_12 : decode cX11_tellingCell 12 = .ok (.getfield 19, 3) := by decide +kernel
theorem dX11_tellingCell_15 : decode cX11_tellingCell 15 = .ok (.invokevirtual 400, 3) := by decide +kernel
theorem dX11_tellingCell_18 : decode cX11_tellingCell 18 = .ok (.if_icmp .ge 83, 3) := by decide +kernel
theorem dX11_tellingCell_21 : decode cX11_tellingCell 21 = .ok (.iconst 0, 1) := by decide +kernel
theorem dX11_tellingCell_22 : decode cX11_tellingCell 22 = .ok (.istore 5, 2) := by decide +kernel
theorem dX11_tellingCell_24 : decode cX11_tellingCell 24 = .ok (.iload_n 1, 1) := by decide +kernel
theorem dX11_tellingCell_25 : decode cX11_tellingCell 25 = .ok (.istore 6, 2) := by decide +kernel
theorem dX11_tellingCell_27 : decode cX11_tellingCell 27 = .ok (.iconst 0, 1) := by decide +kernel
theorem dX11_tellingCell_28 : decode cX11_tellingCell 28 = .ok (.istore 7, 2) := by decide +kernel
theorem dX11_tellingCell_30 : decode cX11_tellingCell 30 = .ok (.iload 7, 2) := by decide +kernel
theorem dX11_tellingCell_32 : decode cX11_tellingCell 32 = .ok (.bipush 26, 2) := by decide +kernel
theorem dX11_tellingCell_34 : decode cX11_tellingCell 34 = .ok (.if_icmp .ge 40, 3) := by decide +kernel
theorem dX11_tellingCell_37 : decode cX11_tellingCell 37 = .ok (.aload_n 0, 1) := by decide +kernel
theorem dX11_tellingCell_38 : decode cX11_tellingCell 38 = .ok (.getfield 82, 3) := by decide +kernel
theorem dX11_tellingCell_41 : decode cX11_tellingCell 41 = .ok (.iload 4, 2) := by decide +kernel
theorem dX11_tellingCell_43 : decode cX11_tellingCell 43 = .ok (.bipush 27, 2) := by decide +kernel
theorem dX11_tellingCell_45 : decode cX11_tellingCell 45 = .ok (.imul, 1) := by decide +kernel
theorem dX11_tellingCell_46 : decode cX11_tellingCell 46 = .ok (.iload 7, 2) := by decide +kernel
theorem dX11_tellingCell_48 : decode cX11_tellingCell 48 = .ok (.iadd, 1) := by decide +kernel
theorem dX11_tellingCell_49 : decode cX11_tellingCell 49 = .ok (.iaload, 1) := by decide +kernel
theorem dX11_tellingCell_50 : decode cX11_tellingCell 50 = .ok (.istore 8, 2) := by decide +kernel
theorem dX11_tellingCell_52 : decode cX11_tellingCell 52 = .ok (.iload 5, 2) := by decide +kernel
theorem dX11_tellingCell_54 : decode cX11_tellingCell 54 = .ok (.iload 8, 2) := by decide +kernel
theorem dX11_tellingCell_56 : decode cX11_tellingCell 56 = .ok (.invokestatic 463, 3) := by decide +kernel
theorem dX11_tellingCell_59 : decode cX11_tellingCell 59 = .ok (.istore 5, 2) := by decide +kernel
theorem dX11_tellingCell_61 : decode cX11_tellingCell 61 = .ok (.iload 6, 2) := by decide +kernel
theorem dX11_tellingCell_63 : decode cX11_tellingCell 63 = .ok (.iload 8, 2) := by decide +kernel
theorem dX11_tellingCell_65 : decode cX11_tellingCell 65 = .ok (.isub, 1) := by decide +kernel
theorem dX11_tellingCell_66 : decode cX11_tellingCell 66 = .ok (.istore 6, 2) := by decide +kernel
theorem dX11_tellingCell_68 : decode cX11_tellingCell 68 = .ok (.iinc 7 1, 3) := by decide +kernel
theorem dX11_tellingCell_71 : decode cX11_tellingCell 71 = .ok (.goto (-41), 3) := by decide +kernel
theorem dX11_tellingCell_74 : decode cX11_tellingCell 74 = .ok (.iload 5, 2) := by decide +kernel
theorem dX11_tellingCell_76 : decode cX11_tellingCell 76 = .ok (.iload 6, 2) := by decide +kernel
theorem dX11_tellingCell_78 : decode cX11_tellingCell 78 = .ok (.invokestatic 463, 3) := by decide +kernel
theorem dX11_tellingCell_81 : decode cX11_tellingCell 81 = .ok (.istore 5, 2) := by decide +kernel
theorem dX11_tellingCell_83 : decode cX11_tellingCell 83 = .ok (.iload 5, 2) := by decide +kernel
theorem dX11_tellingCell_85 : decode cX11_tellingCell 85 = .ok (.iload_n 2, 1) := by decide +kernel
theorem dX11_tellingCell_86 : decode cX11_tellingCell 86 = .ok (.if_icmp .ge 9, 3) := by decide +kernel
theorem dX11_tellingCell_89 : decode cX11_tellingCell 89 = .ok (.iload 5, 2) := by decide +kernel
theorem dX11_tellingCell_91 : decode cX11_tellingCell 91 = .ok (.istore_n 2, 1) := by decide +kernel
theorem dX11_tellingCell_92 : decode cX11_tellingCell 92 = .ok (.iload 4, 2) := by decide +kernel
theorem dX11_tellingCell_94 : decode cX11_tellingCell 94 = .ok (.istore_n 3, 1) := by decide +kernel
theorem dX11_tellingCell_95 : decode cX11_tellingCell 95 = .ok (.iinc 4 1, 3) := by decide +kernel
theorem dX11_tellingCell_98 : decode cX11_tellingCell 98 = .ok (.goto (-89), 3) := by decide +kernel
theorem dX11_tellingCell_101 : decode cX11_tellingCell 101 = .ok (.iload_n 3, 1) := by decide +kernel
theorem dX11_tellingCell_102 : decode cX11_tellingCell 102 = .ok (.ireturn, 1) := by decide +kernel
def kX11_tellingCell_0 (g : sk_G) (d ck sk : Nat) (Q : sk_P) : sk_K := o_iload 1 (o_i (1) (o_iadd (o_istore 2 (o_i (-1) (o_istore 3 (o_i (0) (o_istore 4 (sk_B (g, d, ck, sk, xX11_tellingCell, Q) 9))))))))
theorem tX11_tellingCell_0 {g : sk_G} {d ck sk : Nat} {Q : sk_P} : sk_S (g, d, ck, sk, xX11_tellingCell, Q) 0 (kX11_tellingCell_0 g d ck sk Q) := s_iload_n dX11_tellingCell_0 rfl (s_iconst dX11_tellingCell_1 (s_iadd dX11_tellingCell_2 (s_istore_n dX11_tellingCell_3 rfl (by decide : 2 < 9) (s_iconst dX11_tellingCell_4 (s_istore_n dX11_tellingCell_5 rfl (by decide : 3 < 9) (s_iconst dX11_tellingCell_6 (s_istore dX11_tellingCell_7 (by decide : 4 < 9) (sk_id))))))))
set_option maxRecDepth 20000 in
def kX11_tellingCell_9 (g : sk_G) (d ck sk : Nat) (Q : sk_P) : sk_K := o_iload 4 (o_aload 0 (o_getf 11 1 (o_invT (g, d, ck, sk, xX11_tellingCell, Q) 1 0 7 (fun Q => kX7_cells_0 g (d - 1) 0 0 Q) (o_icge (o_iload 3 (o_iret (g, d, ck, sk, xX11_tellingCell, Q))) (o_i (0) (o_istore 5 (o_iload 1 (o_istore 6 (o_i (0) (o_istore 7 (sk_B (g, d, ck, sk, xX11_tellingCell, Q) 30)))))))))))
set_option maxRecDepth 20000 in
theorem tX11_tellingCell_9 {g : sk_G} {d ck sk : Nat} {Q : sk_P} : sk_S (g, d, ck, sk, xX11_tellingCell, Q) 9 (kX11_tellingCell_9 g d ck sk Q) := s_iload dX11_tellingCell_9 (s_aload_n dX11_tellingCell_11 rfl (s_getf (ci := 11) (j := 1) (C := RX11) (T := TX11) (N := 17) dX11_tellingCell_12 rfl (by decide) (by decide) qf_X11_19 (s_invT (X := xX7_cells) (ci := 7) (T := TX7) (N := 4) (K := (fun Q => kX7_cells_0 g (d - 1) 0 0 Q)) (fun _ => tX7_cells_0) rfl dX11_tellingCell_15 m_X7_cells rfl (by decide) qm_X11_400 qi_X7_cells qe_X7_cells (s_icge (tgt := 101) dX11_tellingCell_18 (by decide) (s_iload_n dX11_tellingCell_101 rfl (s_iret dX11_tellingCell_102 rfl)) (s_iconst dX11_tellingCell_21 (s_istore dX11_tellingCell_22 (by decide : 5 < 9) (s_iload_n dX11_tellingCell_24 rfl (s_istore dX11_tellingCell_25 (by decide : 6 < 9) (s_iconst dX11_tellingCell_27 (s_istore dX11_tellingCell_28 (by decide : 7 < 9) (sk_id)))))))))))
set_option maxRecDepth 20000 in
def kX11_tellingCell_30 (g : sk_G) (d ck sk : Nat) (Q : sk_P) : sk_K := o_iload 7 (o_i (26) (o_icge (o_iload 5 (o_iload 6 (o_max (g, d, ck, sk, xX11_tellingCell, Q) (o_istore 5 (o_iload 5 (o_iload 2 (o_icge (o_iinc 4 (1) (sk_B (g, d, ck, sk, xX11_tellingCell, Q) 9)) (o_iload 5 (o_istore 2 (o_iload 4 (o_istore 3 (o_iinc 4 (1) (sk_B (g, d, ck, sk, xX11_tellingCell, Q) 9))))))))))))) (o_aload 0 (o_getf 11 12 (o_iload 4 (o_i (27) (o_imul (o_iload 7 (o_iadd (o_iaload (o_istore 8 (o_iload 5 (o_iload 8 (o_max (g, d, ck, sk, xX11_tellingCell, Q) (o_istore 5 (o_iload 6 (o_iload 8 (o_isub (o_istore 6 (o_iinc 7 (1) (sk_B (g, d, ck, sk, xX11_tellingCell, Q) 30)))))))))))))))))))))
set_option maxRecDepth 20000 in
theorem tX11_tellingCell_30 {g : sk_G} {d ck sk : Nat} {Q : sk_P} : sk_S (g, d, ck, sk, xX11_tellingCell, Q) 30 (kX11_tellingCell_30 g d ck sk Q) := s_iload dX11_tellingCell_30 (s_bipush dX11_tellingCell_32 rfl (s_icge (tgt := 74) dX11_tellingCell_34 (by decide) (s_iload dX11_tellingCell_74 (s_iload dX11_tellingCell_76 (s_max dX11_tellingCell_78 qm_X11_463 qs_Mmax qz_J9 qc_Mmax (s_istore dX11_tellingCell_81 (by decide : 5 < 9) (s_iload dX11_tellingCell_83 (s_iload_n dX11_tellingCell_85 rfl (s_icge (tgt := 95) dX11_tellingCell_86 (by decide) (s_iinc dX11_tellingCell_95 (by decide : 4 < 9) (s_goto (tgt := 9) dX11_tellingCell_98 (by decide) (sk_id))) (s_iload dX11_tellingCell_89 (s_istore_n dX11_tellingCell_91 rfl (by decide : 2 < 9) (s_iload dX11_tellingCell_92 (s_istore_n dX11_tellingCell_94 rfl (by decide : 3 < 9) (s_iinc dX11_tellingCell_95 (by decide : 4 < 9) (s_goto (tgt := 9) dX11_tellingCell_98 (by decide) (sk_id)))))))))))))) (s_aload_n dX11_tellingCell_37 rfl (s_getf (ci := 11) (j := 12) (C := RX11) (T := TX11) (N := 17) dX11_tellingCell_38 rfl (by decide) (by decide) qf_X11_82 (s_iload dX11_tellingCell_41 (s_bipush dX11_tellingCell_43 rfl (s_imul dX11_tellingCell_45 (s_iload dX11_tellingCell_46 (s_iadd dX11_tellingCell_48 (s_iaload dX11_tellingCell_49 (s_istore dX11_tellingCell_50 (by decide : 8 < 9) (s_iload dX11_tellingCell_52 (s_iload dX11_tellingCell_54 (s_max dX11_tellingCell_56 qm_X11_463 qs_Mmax qz_J9 qc_Mmax (s_istore dX11_tellingCell_59 (by decide : 5 < 9) (s_iload dX11_tellingCell_61 (s_iload dX11_tellingCell_63 (s_isub dX11_tellingCell_65 (s_istore dX11_tellingCell_66 (by decide : 6 < 9) (s_iinc dX11_tellingCell_68 (by decide : 7 < 9) (s_goto (tgt := 30) dX11_tellingCell_71 (by decide) (sk_id))))))))))))))))))))))
theorem dX11_meets_0 : decode cX11_meets 0 = .ok (.aload_n 0, 1) := by decide +kernel
theorem dX11_meets_1 : decode cX11_meets 1 = .ok (.getfield 29, 3) := by decide +kernel
theorem dX11_meets_4 : decode cX11_meets 4 = .ok (.iload_n 1, 1) := by decide +kernel
theorem dX11_meets_5 : decode cX11_meets 5 = .ok (.invokevirtual 171, 3) := by decide +kernel
theorem dX11_meets_8 : decode cX11_meets 8 = .ok (.astore_n 3, 1) := by decide +kernel
theorem dX11_meets_9 : decode cX11_meets 9 = .ok (.aload_n 0, 1) := by decide +kernel
theorem dX11_meets_10 : decode cX11_meets 10 = .ok (.getfield 29, 3) := by decide +kernel
theorem dX11_meets_13 : decode cX11_meets 13 = .ok (.iload_n 2, 1) := by decide +kernel
theorem dX11_meets_14 : decode cX11_meets 14 = .ok (.invokevirtual 171, 3) := by decide +kernel
theorem dX11_meets_17 : decode cX11_meets 17 = .ok (.astore 4, 2) := by decide +kernel
theorem dX11_meets_19 : decode cX11_meets 19 = .ok (.aload_n 3, 1) := by decide +kernel
theorem dX11_meets_20 : decode cX11_meets 20 = .ok (.ifnull 8, 3) := by decide +kernel
theorem dX11_meets_23 : decode cX11_meets 23 = .ok (.aload 4, 2) := by decide +kernel
theorem dX11_meets_25 : decode cX11_meets 25 = .ok (.ifnonnull 7, 3) := by decide +kernel
theorem dX11_meets_28 : decode cX11_meets 28 = .ok (.iconst (-1), 1) := by decide +kernel
theorem dX11_meets_29 : decode cX11_meets 29 = .ok (.goto 9, 3) := by decide +kernel
theorem dX11_meets_32 : decode cX11_meets 32 = .ok (.aload_n 3, 1) := by decide +kernel
theorem dX11_meets_33 : decode cX11_meets 33 = .ok (.aload 4, 2) := by decide +kernel
theorem dX11_meets_35 : decode cX11_meets 35 = .ok (.invokevirtual 361, 3) := by decide +kernel
theorem dX11_meets_38 : decode cX11_meets 38 = .ok (.ireturn, 1) := by decide +kernel
set_option maxRecDepth 20000 in
def kX11_meets_0 (g : sk_G) (d ck sk : Nat) (Q : sk_P) : sk_K := o_aload 0 (o_getf 11 3 (o_iload 1 (o_invT (g, d, ck, sk, xX11_meets, Q) 2 1 8 (fun Q => kX8_writingAt_0 g (d - 1) 0 0 Q) (o_astore 3 (o_aload 0 (o_getf 11 3 (o_iload 2 (o_invT (g, d, ck, sk, xX11_meets, Q) 2 1 8 (fun Q => kX8_writingAt_0 g (d - 1) 0 0 Q) (o_astore 4 (o_aload 3 (o_ifnull (o_i (-1) (o_iret (g, d, ck, sk, xX11_meets, Q))) (o_aload 4 (o_ifnull (o_i (-1) (o_iret (g, d, ck, sk, xX11_meets, Q))) (o_aload 3 (o_aload 4 (o_invB (g, d, ck, sk, xX11_meets, Q) xX10_meeting 1 10 0 0 (o_iret (g, d, ck, sk, xX11_meets, Q))))))))))))))))))
set_option maxRecDepth 20000 in
theorem tX11_meets_0 {g : sk_G} {d ck sk : Nat} {Q : sk_P} : sk_S (g, d, ck, sk, xX11_meets, Q) 0 (kX11_meets_0 g d ck sk Q) := s_aload_n dX11_meets_0 rfl (s_getf (ci := 11) (j := 3) (C := RX11) (T := TX11) (N := 17) dX11_meets_1 rfl (by decide) (by decide) qf_X11_29 (s_iload_n dX11_meets_4 rfl (s_invT (X := xX8_writingAt) (ci := 8) (T := TX8) (N := 7) (K := (fun Q => kX8_writingAt_0 g (d - 1) 0 0 Q)) (fun _ => tX8_writingAt_0) rfl dX11_meets_5 m_X8_writingAt rfl (by decide) qm_X11_171 qi_X8_writingAt qe_X8_writingAt (s_astore_n dX11_meets_8 rfl (by decide : 3 < 5) (s_aload_n dX11_meets_9 rfl (s_getf (ci := 11) (j := 3) (C := RX11) (T := TX11) (N := 17) dX11_meets_10 rfl (by decide) (by decide) qf_X11_29 (s_iload_n dX11_meets_13 rfl (s_invT (X := xX8_writingAt) (ci := 8) (T := TX8) (N := 7) (K := (fun Q => kX8_writingAt_0 g (d - 1) 0 0 Q)) (fun _ => tX8_writingAt_0) rfl dX11_meets_14 m_X8_writingAt rfl (by decide) qm_X11_171 qi_X8_writingAt qe_X8_writingAt (s_astore dX11_meets_17 (by decide : 4 < 5) (s_aload_n dX11_meets_19 rfl (s_ifnull (tgt := 28) dX11_meets_20 (by decide) (s_iconst dX11_meets_28 (s_goto (tgt := 38) dX11_meets_29 (by decide) (s_iret dX11_meets_38 rfl))) (s_aload dX11_meets_23 (s_ifnonnull (tgt := 32) dX11_meets_25 (by decide) (s_aload_n dX11_meets_32 rfl (s_aload dX11_meets_33 (s_invB (w' := (g, d, ck, sk, xX11_meets, Q)) (ci := 10) (ck := 0) (sk := 0) (T := TX10) (N := 9) dX11_meets_35 m_X10_meeting rfl (by decide) qm_X11_361 qi_X10_meeting qe_X10_meeting rfl (s_iret dX11_meets_38 rfl)))) (s_iconst dX11_meets_28 (s_goto (tgt := 38) dX11_meets_29 (by decide) (s_iret dX11_meets_38 rfl))))))))))))))))
theorem dX11_quire_0 : decode cX11_quire 0 = .ok (.aload_n 0, 1) := by decide +kernel
theorem dX11_quire_1 : decode cX11_quire 1 = .ok (.getfield 29, 3) := by decide +kernel
theorem dX11_quire_4 : decode cX11_quire 4 = .ok (.getfield 342, 3) := by decide +kernel
theorem dX11_quire_7 : decode cX11_quire 7 = .ok (.ifCond .eq 12, 3) := by decide +kernel
theorem dX11_quire_10 : decode cX11_quire 10 = .ok (.iload_n 1, 1) := by decide +kernel
theorem dX11_quire_11 : decode cX11_quire 11 = .ok (.ifCond .lt 8, 3) := by decide +kernel
theorem dX11_quire_14 : decode cX11_quire 14 = .ok (.iload_n 1, 1) := by decide +kernel
theorem dX11_quire_15 : decode cX11_quire 15 = .ok (.iconst 1, 1) := by decide +kernel
theorem dX11_quire_16 : decode cX11_quire 16 = .ok (.if_icmp .le 5, 3) := by decide +kernel
theorem dX11_quire_19 : decode cX11_quire 19 = .ok (.iconst (-1), 1) := by decide +kernel
theorem dX11_quire_20 : decode cX11_quire 20 = .ok (.ireturn, 1) := by decide +kernel
theorem dX11_quire_21 : decode cX11_quire 21 = .ok (.iconst 0, 1) := by decide +kernel
theorem dX11_quire_22 : decode cX11_quire 22 = .ok (.istore_n 2, 1) := by decide +kernel
theorem dX11_quire_23 : decode cX11_quire 23 = .ok (.iload_n 2, 1) := by decide +kernel
theorem dX11_quire_24 : decode cX11_quire 24 = .ok (.aload_n 0, 1) := by decide +kernel
theorem dX11_quire_25 : decode cX11_quire 25 = .ok (.getfield 29, 3) := by decide +kernel
theorem dX11_quire_28 : decode cX11_quire 28 = .ok (.getfield 342, 3) := by decide +kernel
theorem dX11_quire_31 : decode cX11_quire 31 = .ok (.if_icmp .ge 43, 3) := by decide +kernel
theorem dX11_quire_34 : decode cX11_quire 34 = .ok (.iconst 0, 1) := by decide +kernel
theorem dX11_quire_35 : decode cX11_quire 35 = .ok (.istore_n 3, 1) := by decide +kernel
theorem dX11_quire_36 : decode cX11_quire 36 = .ok (.iload_n 3, 1) := by decide +kernel
theorem dX11_quire_37 : decode cX11_quire 37 = .ok (.aload_n 0, 1) := by decide +kernel
theorem dX11_quire_38 : decode cX11_quire 38 = .ok (.getfield 29, 3) := by decide +kernel
theorem dX11_quire_41 : decode cX11_quire 41 = .ok (.getfield 342, 3) := by decide +kernel
theorem dX11_quire_44 : decode cX11_quire 44 = .ok (.if_icmp .ge 24, 3) := by decide +kernel
theorem dX11_quire_47 : decode cX11_quire 47 = .ok (.aload_n 0, 1) := by decide +kernel
theorem dX11_quire_48 : decode cX11_quire 48 = .ok (.getfield 74, 3) := by decide +kernel
theorem dX11_quire_51 : decode cX11_quire 51 = .ok (.iload_n 2, 1) := by decide +kernel
theorem dX11_quire_52 : decode cX11_quire 52 = .ok (.iload_n 3, 1) := by decide +kernel
theorem dX11_quire_53 : decode cX11_quire 53 = .ok (.aload_n 0, 1) := by decide +kernel
theorem dX11_quire_54 : decode cX11_quire 54 = .ok (.iload_n 2, 1) := by decide +kernel
theorem dX11_quire_55 : decode cX11_quire 55 = .ok (.iload_n 3, 1) := by decide +kernel
theorem dX11_quire_56 : decode cX11_quire 56 = .ok (.invokevirtual 365, 3) := by decide +kernel
theorem dX11_quire_59 : decode cX11_quire 59 = .ok (.invokevirtual 288, 3) := by decide +kernel
theorem dX11_quire_62 : decode cX11_quire 62 = .ok (.iinc 3 1, 3) := by decide +kernel
theorem dX11_quire_65 : decode cX11_quire 65 = .ok (.goto (-29), 3) := by decide +kernel
theorem dX11_quire_68 : decode cX11_quire 68 = .ok (.iinc 2 1, 3) := by decide +kernel
theorem dX11_quire_71 : decode cX11_quire 71 = .ok (.goto (-48), 3) := by decide +kernel
theorem dX11_quire_74 : decode cX11_quire 74 = .ok (.aload_n 0, 1) := by decide +kernel
theorem dX11_quire_75 : decode cX11_quire 75 = .ok (.getfield 74, 3) := by decide +kernel
theorem dX11_quire_78 : decode cX11_quire 78 = .ok (.aload_n 0, 1) := by decide +kernel
theorem dX11_quire_79 : decode cX11_quire 79 = .ok (.getfield 29, 3) := by decide +kernel
theorem dX11_quire_82 : decode cX11_quire 82 = .ok (.getfield 342, 3) := by decide +kernel
theorem dX11_quire_85 : decode cX11_quire 85 = .ok (.iconst 1, 1) := by decide +kernel
theorem dX11_quire_86 : decode cX11_quire 86 = .ok (.invokevirtual 292, 3) := by decide +kernel
theorem dX11_quire_89 : decode cX11_quire 89 = .ok (.iload_n 1, 1) := by decide +kernel
theorem dX11_quire_90 : decode cX11_quire 90 = .ok (.ifCond .ne 13, 3) := by decide +kernel
theorem dX11_quire_93 : decode cX11_quire 93 = .ok (.aload_n 0, 1) := by decide +kernel
theorem dX11_quire_94 : decode cX11_quire 94 = .ok (.getfield 74, 3) := by decide +kernel
theorem dX11_quire_97 : decode cX11_quire 97 = .ok (.getfield 296, 3) := by decide +kernel
theorem dX11_quire_100 : decode cX11_quire 100 = .ok (.goto 10, 3) := by decide +kernel
theorem dX11_quire_103 : decode cX11_quire 103 = .ok (.aload_n 0, 1) := by decide +kernel
theorem dX11_quire_104 : decode cX11_quire 104 = .ok (.getfield 74, 3) := by decide +kernel
theorem dX11_quire_107 : decode cX11_quire 107 = .ok (.getfield 299, 3) := by decide +kernel
theorem dX11_quire_110 : decode cX11_quire 110 = .ok (.ireturn, 1) := by decide +kernel
set_option maxRecDepth 20000 in
def kX11_quire_0 (g : sk_G) (d ck sk : Nat) (Q : sk_P) : sk_K := o_aload 0 (o_getf 11 3 (o_getf 8 5 (o_ifeq (o_i (-1) (o_iret (g, d, ck, sk, xX11_quire, Q))) (o_iload 1 (o_iflt (o_i (-1) (o_iret (g, d, ck, sk, xX11_quire, Q))) (o_iload 1 (o_i (1) (o_icle (o_i (0) (o_istore 2 (sk_B (g, d, ck, sk, xX11_quire, Q) 23))) (o_i (-1) (o_iret (g, d, ck, sk, xX11_quire, Q)))))))))))
set_option maxRecDepth 20000 in
theorem tX11_quire_0 {g : sk_G} {d ck sk : Nat} {Q : sk_P} : sk_S (g, d, ck, sk, xX11_quire, Q) 0 (kX11_quire_0 g d ck sk Q) := s_aload_n dX11_quire_0 rfl (s_getf (ci := 11) (j := 3) (C := RX11) (T := TX11) (N := 17) dX11_quire_1 rfl (by decide) (by decide) qf_X11_29 (s_getfN (ci := 8) (j := 5) (C := RX8) (T := TX8) (N := 7) dX11_quire_4 rfl (by decide) (by decide) qn_X11_342 (s_ifeq (tgt := 19) dX11_quire_7 (by decide) (s_iconst dX11_quire_19 (s_iret dX11_quire_20 rfl)) (s_iload_n dX11_quire_10 rfl (s_iflt (tgt := 19) dX11_quire_11 (by decide) (s_iconst dX11_quire_19 (s_iret dX11_quire_20 rfl)) (s_iload_n dX11_quire_14 rfl (s_iconst dX11_quire_15 (s_icle (tgt := 21) dX11_quire_16 (by decide) (s_iconst dX11_quire_21 (s_istore_n dX11_quire_22 rfl (by decide : 2 < 4) (sk_id))) (s_iconst dX11_quire_19 (s_iret dX11_quire_20 rfl))))))))))
set_option maxRecDepth 20000 in
def kX11_quire_23 (g : sk_G) (d ck sk : Nat) (Q : sk_P) : sk_K := o_iload 2 (o_aload 0 (o_getf 11 3 (o_getf 8 5 (o_icge (o_aload 0 (o_getf 11 10 (o_aload 0 (o_getf 11 3 (o_getf 8 5 (o_i (1) (o_invB (g, d, ck, sk, xX11_quire, Q) xX6_seek 2 6 0 0 (o_iload 1 (o_ifne (o_aload 0 (o_getf 11 10 (o_getf 6 3 (o_iret (g, d, ck, sk, xX11_quire, Q))))) (o_aload 0 (o_getf 11 10 (o_getf 6 2 (o_iret (g, d, ck, sk, xX11_quire, Q)))))))))))))) (o_i (0) (o_istore 3 (sk_B (g, d, ck, sk, xX11_quire, Q) 36)))))))
set_option maxRecDepth 20000 in
theorem tX11_quire_23 {g : sk_G} {d ck sk : Nat} {Q : sk_P} : sk_S (g, d, ck, sk, xX11_quire, Q) 23 (kX11_quire_23 g d ck sk Q) := s_iload_n dX11_quire_23 rfl (s_aload_n dX11_quire_24 rfl (s_getf (ci := 11) (j := 3) (C := RX11) (T := TX11) (N := 17) dX11_quire_25 rfl (by decide) (by decide) qf_X11_29 (s_getfN (ci := 8) (j := 5) (C := RX8) (T := TX8) (N := 7) dX11_quire_28 rfl (by decide) (by decide) qn_X11_342 (s_icge (tgt := 74) dX11_quire_31 (by decide) (s_aload_n dX11_quire_74 rfl (s_getf (ci := 11) (j := 10) (C := RX11) (T := TX11) (N := 17) dX11_quire_75 rfl (by decide) (by decide) qf_X11_74 (s_aload_n dX11_quire_78 rfl (s_getf (ci := 11) (j := 3) (C := RX11) (T := TX11) (N := 17) dX11_quire_79 rfl (by decide) (by decide) qf_X11_29 (s_getfN (ci := 8) (j := 5) (C := RX8) (T := TX8) (N := 7) dX11_quire_82 rfl (by decide) (by decide) qn_X11_342 (s_iconst dX11_quire_85 (s_invB (w' := (g, d, ck, sk, xX11_quire, Q)) (ci := 6) (ck := 0) (sk := 0) (T := TX6) (N := 4) dX11_quire_86 m_X6_seek rfl (by decide) qm_X11_292 qi_X6_seek qe_X6_seek rfl (s_iload_n dX11_quire_89 rfl (s_ifne (tgt := 103) dX11_quire_90 (by decide) (s_aload_n dX11_quire_103 rfl (s_getf (ci := 11) (j := 10) (C := RX11) (T := TX11) (N := 17) dX11_quire_104 rfl (by decide) (by decide) qf_X11_74 (s_getfN (ci := 6) (j := 3) (C := RX6) (T := TX6) (N := 4) dX11_quire_107 rfl (by decide) (by decide) qn_X11_299 (s_iret dX11_quire_110 rfl)))) (s_aload_n dX11_quire_93 rfl (s_getf (ci := 11) (j := 10) (C := RX11) (T := TX11) (N := 17) dX11_quire_94 rfl (by decide) (by decide) qf_X11_74 (s_getfN (ci := 6) (j := 2) (C := RX6) (T := TX6) (N := 4) dX11_quire_97 rfl (by decide) (by decide) qn_X11_296 (s_goto (tgt := 110) dX11_quire_100 (by decide) (s_iret dX11_quire_110 rfl)))))))))))))) (s_iconst dX11_quire_34 (s_istore_n dX11_quire_35 rfl (by decide : 3 < 4) (sk_id)))))))
set_option maxRecDepth 20000 in
def kX11_quire_36 (g : sk_G) (d ck sk : Nat) (Q : sk_P) : sk_K := o_iload 3 (o_aload 0 (o_getf 11 3 (o_getf 8 5 (o_icge (o_iinc 2 (1) (sk_B (g, d, ck, sk, xX11_quire, Q) 23)) (o_aload 0 (o_getf 11 10 (o_iload 2 (o_iload 3 (o_aload 0 (o_iload 2 (o_iload 3 (o_invB (g, d, ck, sk, xX11_quire, Q) xX11_meets 2 11 0 0 (o_invT (g, d, ck, sk, xX11_quire, Q) 4 3 6 (fun Q => kX6_judge_0 g (d - 1) 0 0 Q) (o_iinc 3 (1) (sk_B (g, d, ck, sk, xX11_quire, Q) 36)))))))))))))))
set_option maxRecDepth 20000 in
theorem tX11_quire_36 {g : sk_G} {d ck sk : Nat} {Q : sk_P} : sk_S (g, d, ck, sk, xX11_quire, Q) 36 (kX11_quire_36 g d ck sk Q) := s_iload_n dX11_quire_36 rfl (s_aload_n dX11_quire_37 rfl (s_getf (ci := 11) (j := 3) (C := RX11) (T := TX11) (N := 17) dX11_quire_38 rfl (by decide) (by decide) qf_X11_29 (s_getfN (ci := 8) (j := 5) (C := RX8) (T := TX8) (N := 7) dX11_quire_41 rfl (by decide) (by decide) qn_X11_342 (s_icge (tgt := 68) dX11_quire_44 (by decide) (s_iinc dX11_quire_68 (by decide : 2 < 4) (s_goto (tgt := 23) dX11_quire_71 (by decide) (sk_id))) (s_aload_n dX11_quire_47 rfl (s_getf (ci := 11) (j := 10) (C := RX11) (T := TX11) (N := 17) dX11_quire_48 rfl (by decide) (by decide) qf_X11_74 (s_iload_n dX11_quire_51 rfl (s_iload_n dX11_quire_52 rfl (s_aload_n dX11_quire_53 rfl (s_iload_n dX11_quire_54 rfl (s_iload_n dX11_quire_55 rfl (s_invB (w' := (g, d, ck, sk, xX11_quire, Q)) (ci := 11) (ck := 0) (sk := 0) (T := TX11) (N := 17) dX11_quire_56 m_X11_meets rfl (by decide) qm_X11_365 qi_X11_meets qe_X11_meets rfl (s_invT (X := xX6_judge) (ci := 6) (T := TX6) (N := 4) (K := (fun Q => kX6_judge_0 g (d - 1) 0 0 Q)) (fun _ => tX6_judge_0) rfl dX11_quire_59 m_X6_judge rfl (by decide) qm_X11_288 qi_X6_judge qe_X6_judge (s_iinc dX11_quire_62 (by decide : 3 < 4) (s_goto (tgt := 36) dX11_quire_65 (by decide) (sk_id))))))))))))))))
