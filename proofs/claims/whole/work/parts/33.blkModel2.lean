theorem dX12_atEnd_0 : decode cX12_atEnd 0 = .ok (.aload_n 0, 1) := by decide +kernel
theorem dX12_atEnd_1 : decode cX12_atEnd 1 = .ok (.getfield 126, 3) := by decide +kernel
theorem dX12_atEnd_4 : decode cX12_atEnd 4 = .ok (.iconst (-1), 1) := by decide +kernel
theorem dX12_atEnd_5 : decode cX12_atEnd 5 = .ok (.if_icmp .ne 15, 3) := by decide +kernel
theorem dX12_atEnd_8 : decode cX12_atEnd 8 = .ok (.aload_n 0, 1) := by decide +kernel
theorem dX12_atEnd_9 : decode cX12_atEnd 9 = .ok (.invokevirtual 138, 3) := by decide +kernel
theorem dX12_atEnd_12 : decode cX12_atEnd 12 = .ok (.iconst (-1), 1) := by decide +kernel
theorem dX12_atEnd_13 : decode cX12_atEnd 13 = .ok (.if_icmp .eq 7, 3) := by decide +kernel
theorem dX12_atEnd_16 : decode cX12_atEnd 16 = .ok (.aload_n 0, 1) := by decide +kernel
theorem dX12_atEnd_17 : decode cX12_atEnd 17 = .ok (.invokevirtual 135, 3) := by decide +kernel
theorem dX12_atEnd_20 : decode cX12_atEnd 20 = .ok (.aload_n 0, 1) := by decide +kernel
theorem dX12_atEnd_21 : decode cX12_atEnd 21 = .ok (.getfield 126, 3) := by decide +kernel
theorem dX12_atEnd_24 : decode cX12_atEnd 24 = .ok (.ireturn, 1) := by decide +kernel
set_option maxRecDepth 20000 in
def kX12_atEnd_0 (g : sk_G) (d ck sk : Nat) (Q : sk_P) : sk_K := o_aload 0 (o_getf 12 4 (o_i (-1) (o_icne (o_aload 0 (o_getf 12 4 (o_iret (g, d, ck, sk, xX12_atEnd, Q)))) (o_aload 0 (o_invB (g, d, ck, sk, xX12_atEnd, Q) xX12_look 0 12 0 0 (o_i (-1) (o_iceq (o_aload 0 (o_getf 12 4 (o_iret (g, d, ck, sk, xX12_atEnd, Q)))) (o_aload 0 (o_invT (g, d, ck, sk, xX12_atEnd, Q) 1 0 12 (fun Q => kX12_bad_0 g (d - 1) 0 0 Q) (o_aload 0 (o_getf 12 4 (o_iret (g, d, ck, sk, xX12_atEnd, Q)))))))))))))
set_option maxRecDepth 20000 in
theorem tX12_atEnd_0 {g : sk_G} {d ck sk : Nat} {Q : sk_P} : sk_S (g, d, ck, sk, xX12_atEnd, Q) 0 (kX12_atEnd_0 g d ck sk Q) := s_aload_n dX12_atEnd_0 rfl (s_getf (ci := 12) (j := 4) (C := RX12) (T := TX12) (N := 49) dX12_atEnd_1 rfl (by decide) (by decide) qf_X12_126 (s_iconst dX12_atEnd_4 (s_icne (tgt := 20) dX12_atEnd_5 (by decide) (s_aload_n dX12_atEnd_20 rfl (s_getf (ci := 12) (j := 4) (C := RX12) (T := TX12) (N := 49) dX12_atEnd_21 rfl (by decide) (by decide) qf_X12_126 (s_iret dX12_atEnd_24 rfl))) (s_aload_n dX12_atEnd_8 rfl (s_invB (w' := (g, d, ck, sk, xX12_atEnd, Q)) (ci := 12) (ck := 0) (sk := 0) (T := TX12) (N := 49) dX12_atEnd_9 m_X12_look rfl (by decide) qm_X12_138 qi_X12_look qe_X12_look rfl (s_iconst dX12_atEnd_12 (s_iceq (tgt := 20) dX12_atEnd_13 (by decide) (s_aload_n dX12_atEnd_20 rfl (s_getf (ci := 12) (j := 4) (C := RX12) (T := TX12) (N := 49) dX12_atEnd_21 rfl (by decide) (by decide) qf_X12_126 (s_iret dX12_atEnd_24 rfl))) (s_aload_n dX12_atEnd_16 rfl (s_invT (X := xX12_bad) (ci := 12) (T := TX12) (N := 49) (K := (fun Q => kX12_bad_0 g (d - 1) 0 0 Q)) (fun _ => tX12_bad_0) rfl dX12_atEnd_17 m_X12_bad rfl (by decide) qm_X12_135 qi_X12_bad qe_X12_bad (s_aload_n dX12_atEnd_20 rfl (s_getf (ci := 12) (j := 4) (C := RX12) (T := TX12) (N := 49) dX12_atEnd_21 rfl (by decide) (by decide) qf_X12_126 (s_iret dX12_atEnd_24 rfl))))))))))))
theorem dX12_readWriting_0 : decode cX12_readWriting 0 = .ok (.aload_n 0, 1) := by decide +kernel
theorem dX12_readWriting_1 : decode cX12_readWriting 1 = .ok (.iconst 0, 1) := by decide +kernel
theorem dX12_readWriting_2 : decode cX12_readWriting 2 = .ok (.putfield 119, 3) := by decide +kernel
theorem dX12_readWriting_5 : decode cX12_readWriting 5 = .ok (.aload_n 0, 1) := by decide +kernel
theorem dX12_readWriting_6 : decode cX12_readWriting 6 = .ok (.iconst (-1), 1) := by decide +kernel
theorem dX12_readWriting_7 : decode cX12_readWriting 7 = .ok (.putfield 126, 3) := by decide +kernel
theorem dX12_readWriting_10 : decode cX12_readWriting 10 = .ok (.aload_n 0, 1) := by decide +kernel
theorem dX12_readWriting_11 : decode cX12_readWriting 11 = .ok (.getfield 55, 3) := by decide +kernel
theorem dX12_readWriting_14 : decode cX12_readWriting 14 = .ok (.iload_n 1, 1) := by decide +kernel
theorem dX12_readWriting_15 : decode cX12_readWriting 15 = .ok (.iconst 0, 1) := by decide +kernel
theorem dX12_readWriting_16 : decode cX12_readWriting 16 = .ok (.iastore, 1) := by decide +kernel
theorem dX12_readWriting_17 : decode cX12_readWriting 17 = .ok (.iconst 0, 1) := by decide +kernel
theorem dX12_readWriting_18 : decode cX12_readWriting 18 = .ok (.istore_n 2, 1) := by decide +kernel
theorem dX12_readWriting_19 : decode cX12_readWriting 19 = .ok (.iload_n 2, 1) := by decide +kernel
theorem dX12_readWriting_20 : decode cX12_readWriting 20 = .ok (.iconst 4, 1) := by decide +kernel
theorem dX12_readWriting_21 : decode cX12_readWriting 21 = .ok (.if_icmp .ge 20, 3) := by decide +kernel
theorem dX12_readWriting_24 : decode cX12_readWriting 24 = .ok (.aload_n 0, 1) := by decide +kernel
theorem dX12_readWriting_25 : decode cX12_readWriting 25 = .ok (.getfield 58, 3) := by decide +kernel
theorem dX12_readWriting_28 : decode cX12_readWriting 28 = .ok (.iconst 4, 1) := by decide +kernel
theorem dX12_readWriting_29 : decode cX12_readWriting 29 = .ok (.iload_n 1, 1) := by decide +kernel
theorem dX12_readWriting_30 : decode cX12_readWriting 30 = .ok (.imul, 1) := by decide +kernel
theorem dX12_readWriting_31 : decode cX12_readWriting 31 = .ok (.iload_n 2, 1) := by decide +kernel
theorem dX12_readWriting_32 : decode cX12_readWriting 32 = .ok (.iadd, 1) := by decide +kernel
theorem dX12_readWriting_33 : decode cX12_readWriting 33 = .ok (.iconst 0, 1) := by decide +kernel
theorem dX12_readWriting_34 : decode cX12_readWriting 34 = .ok (.iastore, 1) := by decide +kernel
theorem dX12_readWriting_35 : decode cX12_readWriting 35 = .ok (.iinc 2 1, 3) := by decide +kernel
theorem dX12_readWriting_38 : decode cX12_readWriting 38 = .ok (.goto (-19), 3) := by decide +kernel
theorem dX12_readWriting_41 : decode cX12_readWriting 41 = .ok (.iconst 0, 1) := by decide +kernel
theorem dX12_readWriting_42 : decode cX12_readWriting 42 = .ok (.istore_n 2, 1) := by decide +kernel
theorem dX12_readWriting_43 : decode cX12_readWriting 43 = .ok (.iconst 0, 1) := by decide +kernel
theorem dX12_readWriting_44 : decode cX12_readWriting 44 = .ok (.istore_n 3, 1) := by decide +kernel
theorem dX12_readWriting_45 : decode cX12_readWriting 45 = .ok (.iconst 1, 1) := by decide +kernel
theorem dX12_readWriting_46 : decode cX12_readWriting 46 = .ok (.istore 4, 2) := by decide +kernel
theorem dX12_readWriting_48 : decode cX12_readWriting 48 = .ok (.iload 4, 2) := by decide +kernel
theorem dX12_readWriting_50 : decode cX12_readWriting 50 = .ok (.ifCond .eq 84, 3) := by decide +kernel
theorem dX12_readWriting_53 : decode cX12_readWriting 53 = .ok (.aload_n 0, 1) := by decide +kernel
theorem dX12_readWriting_54 : decode cX12_readWriting 54 = .ok (.getfield 126, 3) := by decide +kernel
theorem dX12_readWriting_57 : decode cX12_readWriting 57 = .ok (.iconst (-1), 1) := by decide +kernel
theorem dX12_readWriting_58 : decode cX12_readWriting 58 = .ok (.if_icmp .ne 76, 3) := by decide +kernel
theorem dX12_readWriting_61 : decode cX12_readWriting 61 = .ok (.aload_n 0, 1) := by decide +kernel
theorem dX12_readWriting_62 : decode cX12_readWriting 62 = .ok (.iload_n 1, 1) := by decide +kernel
theorem dX12_readWriting_63 : decode cX12_readWriting 63 = .ok (.iload_n 3, 1) := by decide +kernel
theorem dX12_readWriting_64 : decode cX12_readWriting 64 = .ok (.invokevirtual 258, 3) := by decide +kernel
theorem dX12_readWriting_67 : decode cX12_readWriting 67 = .ok (.ifCond .ne 7, 3) := by decide +kernel
theorem dX12_readWriting_70 : decode cX12_readWriting 70 = .ok (.iload_n 2, 1) := by decide +kernel
theorem dX12_readWriting_71 : decode cX12_readWriting 71 = .ok (.ifCond .eq 7, 3) := by decide +kernel
theorem dX12_readWriting_74 : decode cX12_readWriting 74 = .ok (.iconst 1, 1) := by decide +kernel
theorem dX12_readWriting_75 : decode cX12_readWriting 75 = .ok (.goto 4, 3) := by decide +kernel
theorem dX12_readWriting_78 : decode cX12_readWriting 78 = .ok (.iconst 0, 1) := by decide +kernel
theorem dX12_readWriting_79 : decode cX12_readWriting 79 = .ok (.istore_n 2, 1) := by decide +kernel
theorem dX12_readWriting_80 : decode cX12_readWriting 80 = .ok (.iinc 3 1, 3) := by decide +kernel
theorem dX12_readWriting_83 : decode cX12_readWriting 83 = .ok (.aload_n 0, 1) := by decide +kernel
theorem dX12_readWriting_84 : decode cX12_readWriting 84 = .ok (.getfield 126, 3) := by decide +kernel
theorem dX12_readWriting_87 : decode cX12_readWriting 87 = .ok (.iconst (-1), 1) := by decide +kernel
theorem dX12_readWriting_88 : decode cX12_readWriting 88 = .ok (.if_icmp .ne 21, 3) := by decide +kernel
theorem dX12_readWriting_91 : decode cX12_readWriting 91 = .ok (.aload_n 0, 1) := by decide +kernel
theorem dX12_readWriting_92 : decode cX12_readWriting 92 = .ok (.invokevirtual 138, 3) := by decide +kernel
theorem dX12_readWriting_95 : decode cX12_readWriting 95 = .ok (.bipush 47, 2) := by decide +kernel
theorem dX12_readWriting_97 : decode cX12_readWriting 97 = .ok (.if_icmp .ne 12, 3) := by decide +kernel
theorem dX12_readWriting_100 : decode cX12_readWriting 100 = .ok (.iload_n 3, 1) := by decide +kernel
theorem dX12_readWriting_101 : decode cX12_readWriting 101 = .ok (.iconst 4, 1) := by decide +kernel
theorem dX12_readWriting_102 : decode cX12_readWriting 102 = .ok (.if_icmp .ge 7, 3) := by decide +kernel
theorem dX12_readWriting_105 : decode cX12_readWriting 105 = .ok (.iconst 1, 1) := by decide +kernel
theorem dX12_readWriting_106 : decode cX12_readWriting 106 = .ok (.goto 4, 3) := by decide +kernel
theorem dX12_readWriting_109 : decode cX12_readWriting 109 = .ok (.iconst 0, 1) := by decide +kernel
theorem dX12_readWriting_110 : decode cX12_readWriting 110 = .ok (.istore 4, 2) := by decide +kernel
theorem dX12_readWriting_112 : decode cX12_readWriting 112 = .ok (.aload_n 0, 1) := by decide +kernel
theorem dX12_readWriting_113 : decode cX12_readWriting 113 = .ok (.dup, 1) := by decide +kernel
theorem dX12_readWriting_114 : decode cX12_readWriting 114 = .ok (.getfield 119, 3) := by decide +kernel
theorem dX12_readWriting_117 : decode cX12_readWriting 117 = .ok (.iload 4, 2) := by decide +kernel
theorem dX12_readWriting_119 : decode cX12_readWriting 119 = .ok (.ifCond .eq 7, 3) := by decide +kernel
theorem dX12_readWriting_122 : decode cX12_readWriting 122 = .ok (.iconst 1, 1) := by decide +kernel
theorem dX12_readWriting_123 : decode cX12_readWriting 123 = .ok (.goto 4, 3) := by decide +kernel
theorem dX12_readWriting_126 : decode cX12_readWriting 126 = .ok (.iconst 0, 1) := by decide +kernel
theorem dX12_readWriting_127 : decode cX12_readWriting 127 = .ok (.iadd, 1) := by decide +kernel
theorem dX12_readWriting_128 : decode cX12_readWriting 128 = .ok (.putfield 119, 3) := by decide +kernel
theorem dX12_readWriting_131 : decode cX12_readWriting 131 = .ok (.goto (-83), 3) := by decide +kernel
theorem dX12_readWriting_134 : decode cX12_readWriting 134 = .ok (.aload_n 0, 1) := by decide +kernel
theorem dX12_readWriting_135 : decode cX12_readWriting 135 = .ok (.getfield 126, 3) := by decide +kernel
theorem dX12_readWriting_138 : decode cX12_readWriting 138 = .ok (.iconst (-1), 1) := by decide +kernel
theorem dX12_readWriting_139 : decode cX12_readWriting 139 = .ok (.if_icmp .ne 19, 3) := by decide +kernel
theorem dX12_readWriting_142 : decode cX12_readWriting 142 = .ok (.aload_n 0, 1) := by decide +kernel
theorem dX12_readWriting_143 : decode cX12_readWriting 143 = .ok (.invokevirtual 138, 3) := by decide +kernel
theorem dX12_readWriting_146 : decode cX12_readWriting 146 = .ok (.iconst (-1), 1) := by decide +kernel
theorem dX12_readWriting_147 : decode cX12_readWriting 147 = .ok (.if_icmp .ne 7, 3) := by decide +kernel
theorem dX12_readWriting_150 : decode cX12_readWriting 150 = .ok (.iload_n 2, 1) := by decide +kernel
theorem dX12_readWriting_151 : decode cX12_readWriting 151 = .ok (.ifCond .ne 7, 3) := by decide +kernel
theorem dX12_readWriting_154 : decode cX12_readWriting 154 = .ok (.aload_n 0, 1) := by decide +kernel
theorem dX12_readWriting_155 : decode cX12_readWriting 155 = .ok (.invokevirtual 135, 3) := by decide +kernel
theorem dX12_readWriting_158 : decode cX12_readWriting 158 = .ok (.aload_n 0, 1) := by decide +kernel
theorem dX12_readWriting_159 : decode cX12_readWriting 159 = .ok (.getfield 126, 3) := by decide +kernel
theorem dX12_readWriting_162 : decode cX12_readWriting 162 = .ok (.ireturn, 1) := by decide +kernel
set_option maxRecDepth 20000 in
def kX12_readWriting_0 (g : sk_G) (d ck sk : Nat) (Q : sk_P) : sk_K := o_aload 0 (o_i (0) (o_puti 12 3 (o_aload 0 (o_i (-1) (o_puti 12 4 (o_aload 0 (o_getf 12 25 (o_iload 1 (o_i (0) (o_iastore (o_i (0) (o_istore 2 (sk_B (g, d, ck, sk, xX12_readWriting, Q) 19)))))))))))))
set_option maxRecDepth 20000 in
theorem tX12_readWriting_0 {g : sk_G} {d ck sk : Nat} {Q : sk_P} : sk_S (g, d, ck, sk, xX12_readWriting, Q) 0 (kX12_readWriting_0 g d ck sk Q) := s_aload_n dX12_readWriting_0 rfl (s_iconst dX12_readWriting_1 (s_puti (ci := 12) (j := 3) (C := RX12) (T := TX12) (N := 49) dX12_readWriting_2 rfl (by decide) (by decide) rfl (tyX12_ok 3 (by decide)) qf_X12_119 (s_aload_n dX12_readWriting_5 rfl (s_iconst dX12_readWriting_6 (s_puti (ci := 12) (j := 4) (C := RX12) (T := TX12) (N := 49) dX12_readWriting_7 rfl (by decide) (by decide) rfl (tyX12_ok 4 (by decide)) qf_X12_126 (s_aload_n dX12_readWriting_10 rfl (s_getf (ci := 12) (j := 25) (C := RX12) (T := TX12) (N := 49) dX12_readWriting_11 rfl (by decide) (by decide) qf_X12_55 (s_iload_n dX12_readWriting_14 rfl (s_iconst dX12_readWriting_15 (s_iastore dX12_readWriting_16 (s_iconst dX12_readWriting_17 (s_istore_n dX12_readWriting_18 rfl (by decide : 2 < 5) (sk_id)))))))))))))
set_option maxRecDepth 20000 in
def kX12_readWriting_19 (g : sk_G) (d ck sk : Nat) (Q : sk_P) : sk_K := o_iload 2 (o_i (4) (o_icge (o_i (0) (o_istore 2 (o_i (0) (o_istore 3 (o_i (1) (o_istore 4 (sk_B (g, d, ck, sk, xX12_readWriting, Q) 48))))))) (o_aload 0 (o_getf 12 26 (o_i (4) (o_iload 1 (o_imul (o_iload 2 (o_iadd (o_i (0) (o_iastore (o_iinc 2 (1) (sk_B (g, d, ck, sk, xX12_readWriting, Q) 19)))))))))))))
set_option maxRecDepth 20000 in
theorem tX12_readWriting_19 {g : sk_G} {d ck sk : Nat} {Q : sk_P} : sk_S (g, d, ck, sk, xX12_readWriting, Q) 19 (kX12_readWriting_19 g d ck sk Q) := s_iload_n dX12_readWriting_19 rfl (s_iconst dX12_readWriting_20 (s_icge (tgt := 41) dX12_readWriting_21 (by decide) (s_iconst dX12_readWriting_41 (s_istore_n dX12_readWriting_42 rfl (by decide : 2 < 5) (s_iconst dX12_readWriting_43 (s_istore_n dX12_readWriting_44 rfl (by decide : 3 < 5) (s_iconst dX12_readWriting_45 (s_istore dX12_readWriting_46 (by decide : 4 < 5) (sk_id))))))) (s_aload_n dX12_readWriting_24 rfl (s_getf (ci := 12) (j := 26) (C := RX12) (T := TX12) (N := 49) dX12_readWriting_25 rfl (by decide) (by decide) qf_X12_58 (s_iconst dX12_readWriting_28 (s_iload_n dX12_readWriting_29 rfl (s_imul dX12_readWriting_30 (s_iload_n dX12_readWriting_31 rfl (s_iadd dX12_readWriting_32 (s_iconst dX12_readWriting_33 (s_iastore dX12_readWriting_34 (s_iinc dX12_readWriting_35 (by decide : 2 < 5) (s_goto (tgt := 19) dX12_readWriting_38 (by decide) (sk_id))))))))))))))
set_option maxRecDepth 20000 in
def kX12_readWriting_48 (g : sk_G) (d ck sk : Nat) (Q : sk_P) : sk_K := o_iload 4 (o_ifeq (sk_B (g, d, ck, sk, xX12_readWriting, Q) 134) (o_aload 0 (o_getf 12 4 (o_i (-1) (o_icne (sk_B (g, d, ck, sk, xX12_readWriting, Q) 134) (o_aload 0 (o_iload 1 (o_iload 3 (o_invB (g, d, ck, sk, xX12_readWriting, Q) xX12_readLine 2 12 0 0 (o_ifne (o_i (1) (sk_B (g, d, ck, sk, xX12_readWriting, Q) 79)) (o_iload 2 (o_ifeq (o_i (0) (sk_B (g, d, ck, sk, xX12_readWriting, Q) 79)) (o_i (1) (sk_B (g, d, ck, sk, xX12_readWriting, Q) 79))))))))))))))
set_option maxRecDepth 20000 in
theorem tX12_readWriting_48 {g : sk_G} {d ck sk : Nat} {Q : sk_P} : sk_S (g, d, ck, sk, xX12_readWriting, Q) 48 (kX12_readWriting_48 g d ck sk Q) := s_iload dX12_readWriting_48 (s_ifeq (tgt := 134) dX12_readWriting_50 (by decide) (sk_id) (s_aload_n dX12_readWriting_53 rfl (s_getf (ci := 12) (j := 4) (C := RX12) (T := TX12) (N := 49) dX12_readWriting_54 rfl (by decide) (by decide) qf_X12_126 (s_iconst dX12_readWriting_57 (s_icne (tgt := 134) dX12_readWriting_58 (by decide) (sk_id) (s_aload_n dX12_readWriting_61 rfl (s_iload_n dX12_readWriting_62 rfl (s_iload_n dX12_readWriting_63 rfl (s_invB (w' := (g, d, ck, sk, xX12_readWriting, Q)) (ci := 12) (ck := 0) (sk := 0) (T := TX12) (N := 49) dX12_readWriting_64 m_X12_readLine rfl (by decide) qm_X12_258 qi_X12_readLine qe_X12_readLine rfl (s_ifne (tgt := 74) dX12_readWriting_67 (by decide) (s_iconst dX12_readWriting_74 (s_goto (tgt := 79) dX12_readWriting_75 (by decide) (sk_id))) (s_iload_n dX12_readWriting_70 rfl (s_ifeq (tgt := 78) dX12_readWriting_71 (by decide) (s_iconst dX12_readWriting_78 (sk_id)) (s_iconst dX12_readWriting_74 (s_goto (tgt := 79) dX12_readWriting_75 (by decide) (sk_id)))))))))))))))
set_option maxRecDepth 20000 in
def kX12_readWriting_79 (g : sk_G) (d ck sk : Nat) (Q : sk_P) : sk_K := o_istore 2 (o_iinc 3 (1) (o_aload 0 (o_getf 12 4 (o_i (-1) (o_icne (o_i (0) (sk_B (g, d, ck, sk, xX12_readWriting, Q) 110)) (o_aload 0 (o_invB (g, d, ck, sk, xX12_readWriting, Q) xX12_look 0 12 0 0 (o_i (47) (o_icne (o_i (0) (sk_B (g, d, ck, sk, xX12_readWriting, Q) 110)) (o_iload 3 (o_i (4) (o_icge (o_i (0) (sk_B (g, d, ck, sk, xX12_readWriting, Q) 110)) (o_i (1) (sk_B (g, d, ck, sk, xX12_readWriting, Q) 110))))))))))))))
set_option maxRecDepth 20000 in
theorem tX12_readWriting_79 {g : sk_G} {d ck sk : Nat} {Q : sk_P} : sk_S (g, d, ck, sk, xX12_readWriting, Q) 79 (kX12_readWriting_79 g d ck sk Q) := s_istore_n dX12_readWriting_79 rfl (by decide : 2 < 5) (s_iinc dX12_readWriting_80 (by decide : 3 < 5) (s_aload_n dX12_readWriting_83 rfl (s_getf (ci := 12) (j := 4) (C := RX12) (T := TX12) (N := 49) dX12_readWriting_84 rfl (by decide) (by decide) qf_X12_126 (s_iconst dX12_readWriting_87 (s_icne (tgt := 109) dX12_readWriting_88 (by decide) (s_iconst dX12_readWriting_109 (sk_id)) (s_aload_n dX12_readWriting_91 rfl (s_invB (w' := (g, d, ck, sk, xX12_readWriting, Q)) (ci := 12) (ck := 0) (sk := 0) (T := TX12) (N := 49) dX12_readWriting_92 m_X12_look rfl (by decide) qm_X12_138 qi_X12_look qe_X12_look rfl (s_bipush dX12_readWriting_95 rfl (s_icne (tgt := 109) dX12_readWriting_97 (by decide) (s_iconst dX12_readWriting_109 (sk_id)) (s_iload_n dX12_readWriting_100 rfl (s_iconst dX12_readWriting_101 (s_icge (tgt := 109) dX12_readWriting_102 (by decide) (s_iconst dX12_readWriting_109 (sk_id)) (s_iconst dX12_readWriting_105 (s_goto (tgt := 110) dX12_readWriting_106 (by decide) (sk_id)))))))))))))))
set_option maxRecDepth 20000 in
def kX12_readWriting_110 (g : sk_G) (d ck sk : Nat) (Q : sk_P) : sk_K := o_istore 4 (o_aload 0 (o_dup (o_getf 12 3 (o_iload 4 (o_ifeq (o_i (0) (o_iadd (o_puti 12 3 (sk_B (g, d, ck, sk, xX12_readWriting, Q) 48)))) (o_i (1) (o_iadd (o_puti 12 3 (sk_B (g, d, ck, sk, xX12_readWriting, Q) 48)))))))))
set_option maxRecDepth 20000 in
theorem tX12_readWriting_110 {g : sk_G} {d ck sk : Nat} {Q : sk_P} : sk_S (g, d, ck, sk, xX12_readWriting, Q) 110 (kX12_readWriting_110 g d ck sk Q) := s_istore dX12_readWriting_110 (by decide : 4 < 5) (s_aload_n dX12_readWriting_112 rfl (s_dup dX12_readWriting_113 (s_getf (ci := 12) (j := 3) (C := RX12) (T := TX12) (N := 49) dX12_readWriting_114 rfl (by decide) (by decide) qf_X12_119 (s_iload dX12_readWriting_117 (s_ifeq (tgt := 126) dX12_readWriting_119 (by decide) (s_iconst dX12_readWriting_126 (s_iadd dX12_readWriting_127 (s_puti (ci := 12) (j := 3) (C := RX12) (T := TX12) (N := 49) dX12_readWriting_128 rfl (by decide) (by decide) rfl (tyX12_ok 3 (by decide)) qf_X12_119 (s_goto (tgt := 48) dX12_readWriting_131 (by decide) (sk_id))))) (s_iconst dX12_readWriting_122 (s_goto (tgt := 127) dX12_readWriting_123 (by decide) (s_iadd dX12_readWriting_127 (s_puti (ci := 12) (j := 3) (C := RX12) (T := TX12) (N := 49) dX12_readWriting_128 rfl (by decide) (by decide) rfl (tyX12_ok 3 (by decide)) qf_X12_119 (s_goto (tgt := 48) dX12_readWriting_131 (by decide) (sk_id)))))))))))
set_option maxRecDepth 20000 in
def kX12_readWriting_134 (g : sk_G) (d ck sk : Nat) (Q : sk_P) : sk_K := o_aload 0 (o_getf 12 4 (o_i (-1) (o_icne (o_aload 0 (o_getf 12 4 (o_iret (g, d, ck, sk, xX12_readWriting, Q)))) (o_aload 0 (o_invB (g, d, ck, sk, xX12_readWriting, Q) xX12_look 0 12 0 0 (o_i (-1) (o_icne (o_aload 0 (o_invT (g, d, ck, sk, xX12_readWriting, Q) 1 0 12 (fun Q => kX12_bad_0 g (d - 1) 0 0 Q) (o_aload 0 (o_getf 12 4 (o_iret (g, d, ck, sk, xX12_readWriting, Q)))))) (o_iload 2 (o_ifne (o_aload 0 (o_getf 12 4 (o_iret (g, d, ck, sk, xX12_readWriting, Q)))) (o_aload 0 (o_invT (g, d, ck, sk, xX12_readWriting, Q) 1 0 12 (fun Q => kX12_bad_0 g (d - 1) 0 0 Q) (o_aload 0 (o_getf 12 4 (o_iret (g, d, ck, sk, xX12_readWriting, Q)))))))))))))))
set_option maxRecDepth 20000 in
theorem tX12_readWriting_134 {g : sk_G} {d ck sk : Nat} {Q : sk_P} : sk_S (g, d, ck, sk, xX12_readWriting, Q) 134 (kX12_readWriting_134 g d ck sk Q) := s_aload_n dX12_readWriting_134 rfl (s_getf (ci := 12) (j := 4) (C := RX12) (T := TX12) (N := 49) dX12_readWriting_135 rfl (by decide) (by decide) qf_X12_126 (s_iconst dX12_readWriting_138 (s_icne (tgt := 158) dX12_readWriting_139 (by decide) (s_aload_n dX12_readWriting_158 rfl (s_getf (ci := 12) (j := 4) (C := RX12) (T := TX12) (N := 49) dX12_readWriting_159 rfl (by decide) (by decide) qf_X12_126 (s_iret dX12_readWriting_162 rfl))) (s_aload_n dX12_readWriting_142 rfl (s_invB (w' := (g, d, ck, sk, xX12_readWriting, Q)) (ci := 12) (ck := 0) (sk := 0) (T := TX12) (N := 49) dX12_readWriting_143 m_X12_look rfl (by decide) qm_X12_138 qi_X12_look qe_X12_look rfl (s_iconst dX12_readWriting_146 (s_icne (tgt := 154) dX12_readWriting_147 (by decide) (s_aload_n dX12_readWriting_154 rfl (s_invT (X := xX12_bad) (ci := 12) (T := TX12) (N := 49) (K := (fun Q => kX12_bad_0 g (d - 1) 0 0 Q)) (fun _ => tX12_bad_0) rfl dX12_readWriting_155 m_X12_bad rfl (by decide) qm_X12_135 qi_X12_bad qe_X12_bad (s_aload_n dX12_readWriting_158 rfl (s_getf (ci := 12) (j := 4) (C := RX12) (T := TX12) (N := 49) dX12_readWriting_159 rfl (by decide) (by decide) qf_X12_126 (s_iret dX12_readWriting_162 rfl))))) (s_iload_n dX12_readWriting_150 rfl (s_ifne (tgt := 158) dX12_readWriting_151 (by decide) (s_aload_n dX12_readWriting_158 rfl (s_getf (ci := 12) (j := 4) (C := RX12) (T := TX12) (N := 49) dX12_readWriting_159 rfl (by decide) (by decide) qf_X12_126 (s_iret dX12_readWriting_162 rfl))) (s_aload_n dX12_readWriting_154 rfl (s_invT (X := xX12_bad) (ci := 12) (T := TX12) (N := 49) (K := (fun Q => kX12_bad_0 g (d - 1) 0 0 Q)) (fun _ => tX12_bad_0) rfl dX12_readWriting_155 m_X12_bad rfl (by decide) qm_X12_135 qi_X12_bad qe_X12_bad (s_aload_n dX12_readWriting_158 rfl (s_getf (ci := 12) (j := 4) (C := RX12) (T := TX12) (N := 49) dX12_readWriting_159 rfl (by decide) (by decide) qf_X12_126 (s_iret dX12_readWriting_162 rfl))))))))))))))
theorem dX12_readLine_0 : decode cX12_readLine 0 = .ok (.iconst 0, 1) := by decide +kernel
theorem dX12_readLine_1 : decode cX12_readLine 1 = .ok (.istore_n 3, 1) := by decide +kernel
theorem dX12_readLine_2 : decode cX12_readLine 2 = .ok (.iconst 0, 1) := by decide +kernel
theorem dX12_readLine_3 : decode cX12_readLine 3 = .ok (.istore 4, 2) := by decide +kernel
theorem dX12_readLine_5 : decode cX12_readLine 5 = .ok (.iconst 1, 1) := by decide +kernel
theorem dX12_readLine_6 : decode cX12_readLine 6 = .ok (.istore 5, 2) := by decide +kernel
theorem dX12_readLine_8 : decode cX12_readLine 8 = .ok (.iload 5, 2) := by decide +kernel
theorem dX12_readLine_10 : decode cX12_readLine 10 = .ok (.ifCond .eq 160, 3) := by decide +kernel
theorem dX12_readLine_13 : decode cX12_readLine 13 = .ok (.aload_n 0, 1) := by decide +kernel
theorem dX12_readLine_14 : decode cX12_readLine 14 = .ok (.invokevirtual 138, 3) := by decide +kernel
theorem dX12_readLine_17 : decode cX12_readLine 17 = .ok (.istore 6, 2) := by decide +kernel
theorem dX12_readLine_19 : decode cX12_readLine 19 = .ok (.iload 6, 2) := by decide +kernel
theorem dX12_readLine_21 : decode cX12_readLine 21 = .ok (.iconst (-1), 1) := by decide +kernel
theorem dX12_readLine_22 : decode cX12_readLine 22 = .ok (.if_icmp .eq 33, 3) := by decide +kernel
theorem dX12_readLine_25 : decode cX12_readLine 25 = .ok (.iload 6, 2) := by decide +kernel
theorem dX12_readLine_27 : decode cX12_readLine 27 = .ok (.invokestatic 255, 3) := by decide +kernel
theorem dX12_readLine_30 : decode cX12_readLine 30 = .ok (.ifCond .eq 25, 3) := by decide +kernel
theorem dX12_readLine_33 : decode cX12_readLine 33 = .ok (.iload 4, 2) := by decide +kernel
theorem dX12_readLine_35 : decode cX12_readLine 35 = .ok (.bipush 8, 2) := by decide +kernel
theorem dX12_readLine_37 : decode cX12_readLine 37 = .ok (.if_icmp .ge 18, 3) := by decide +kernel
theorem dX12_readLine_40 : decode cX12_readLine 40 = .ok (.aload_n 0, 1) := by decide +kernel
theorem dX12_readLine_41 : decode cX12_readLine 41 = .ok (.getfield 55, 3) := by decide +kernel
theorem dX12_readLine_44 : decode cX12_readLine 44 = .ok (.iload_n 1, 1) := by decide +kernel
theorem dX12_readLine_45 : decode cX12_readLine 45 = .ok (.iaload, 1) := by decide +kernel
theorem dX12_readLine_46 : decode cX12_readLine 46 = .ok (.bipush 16, 2) := by decide +kernel
theorem dX12_readLine_48 : decode cX12_readLine 48 = .ok (.if_icmp .ge 7, 3) := by decide +kernel
theorem dX12_readLine_51 : decode cX12_readLine 51 = .ok (.iconst 1, 1) := by decide +kernel
theorem dX12_readLine_52 : decode cX12_readLine 52 = .ok (.goto 4, 3) := by decide +kernel
theorem dX12_readLine_55 : decode cX12_readLine 55 = .ok (.iconst 0, 1) := by decide +kernel
theorem dX12_readLine_56 : decode cX12_readLine 56 = .ok (.istore 7, 2) := by decide +kernel
theorem dX12_readLine_58 : decode cX12_readLine 58 = .ok (.iload 7, 2) := by decide +kernel
theorem dX12_readLine_60 : decode cX12_readLine 60 = .ok (.ifCond .eq 103, 3) := by decide +kernel
theorem dX12_readLine_63 : decode cX12_readLine 63 = .ok (.iconst 3, 1) := by decide +kernel
theorem dX12_readLine_64 : decode cX12_readLine 64 = .ok (.bipush 16, 2) := by decide +kernel
theorem dX12_readLine_66 : decode cX12_readLine 66 = .ok (.iload_n 1, 1) := by decide +kernel
theorem dX12_readLine_67 : decode cX12_readLine 67 = .ok (.imul, 1) := by decide +kernel
theorem dX12_readLine_68 : decode cX12_readLine 68 = .ok (.aload_n 0, 1) := by decide +kernel
theorem dX12_readLine_69 : decode cX12_readLine 69 = .ok (.getfield 55, 3) := by decide +kernel
theorem dX12_readLine_72 : decode cX12_readLine 72 = .ok (.iload_n 1, 1) := by decide +kernel
theorem dX12_readLine_73 : decode cX12_readLine 73 = .ok (.iaload, 1) := by decide +kernel
theorem dX12_readLine_74 : decode cX12_readLine 74 = .ok (.iadd, 1) := by decide +kernel
theorem dX12_readLine_75 : decode cX12_readLine 75 = .ok (.imul, 1) := by decide +kernel
theorem dX12_readLine_76 : decode cX12_readLine 76 = .ok (.istore 8, 2) := by decide +kernel
theorem dX12_readLine_78 : decode cX12_readLine 78 = .ok (.aload_n 0, 1) := by decide +kernel
theorem dX12_readLine_79 : decode cX12_readLine 79 = .ok (.getfield 52, 3) := by decide +kernel
theorem dX12_readLine_82 : decode cX12_readLine 82 = .ok (.iload 8, 2) := by decide +kernel
theorem dX12_readLine_84 : decode cX12_readLine 84 = .ok (.iload 6, 2) := by decide +kernel
theorem dX12_readLine_86 : decode cX12_readLine 86 = .ok (.bipush 46, 2) := by decide +kernel
theorem dX12_readLine_88 : decode cX12_readLine 88 = .ok (.if_icmp .ne 8, 3) := by decide +kernel
theorem dX12_readLine_91 : decode cX12_readLine 91 = .ok (.bipush 26, 2) := by decide +kernel
theorem dX12_readLine_93 : decode cX12_readLine 93 = .ok (.goto 8, 3) := by decide +kernel
theorem dX12_readLine_96 : decode cX12_readLine 96 = .ok (.iload 6, 2) := by decide +kernel
theorem dX12_readLine_98 : decode cX12_readLine 98 = .ok (.bipush 97, 2) := by decide +kernel
theorem dX12_readLine_100 : decode cX12_readLine 100 = .ok (.isub, 1) := by decide +kernel
theorem dX12_readLine_101 : decode cX12_readLine 101 = .ok (.iastore, 1) := by decide +kernel
theorem dX12_readLine_102 : decode cX12_readLine 102 = .ok (.aload_n 0, 1) := by decide +kernel
theorem dX12_readLine_103 : decode cX12_readLine 103 = .ok (.getfield 52, 3) := by decide +kernel
theorem dX12_readLine_106 : decode cX12_readLine 106 = .ok (.iload 8, 2) := by decide +kernel
theorem dX12_readLine_108 : decode cX12_readLine 108 = .ok (.iconst 1, 1) := by decide +kernel
theorem dX12_readLine_109 : decode cX12_readLine 109 = .ok (.iadd, 1) := by decide +kernel
theorem dX12_readLine_110 : decode cX12_readLine 110 = .ok (.iload_n 2, 1) := by decide +kernel
theorem dX12_readLine_111 : decode cX12_readLine 111 = .ok (.iastore, 1) := by decide +kernel
theorem dX12_readLine_112 : decode cX12_readLine 112 = .ok (.aload_n 0, 1) := by decide +kernel
theorem dX12_readLine_113 : decode cX12_readLine 113 = .ok (.getfield 52, 3) := by decide +kernel
theorem dX12_readLine_116 : decode cX12_readLine 116 = .ok (.iload 8, 2) := by decide +kernel
theorem dX12_readLine_118 : decode cX12_readLine 118 = .ok (.iconst 2, 1) := by decide +kernel
theorem dX12_readLine_119 : decode cX12_readLine 119 = .ok (.iadd, 1) := by decide +kernel
theorem dX12_readLine_120 : decode cX12_readLine 120 = .ok (.iload 4, 2) := by decide +kernel
theorem dX12_readLine_122 : decode cX12_readLine 122 = .ok (.iastore, 1) := by decide +kernel
theorem dX12_readLine_123 : decode cX12_readLine 123 = .ok (.iload_n 3, 1) := by decide +kernel
theorem dX12_readLine_124 : decode cX12_readLine 124 = .ok (.ifCond .ne 10, 3) := by decide +kernel
theorem dX12_readLine_127 : decode cX12_readLine 127 = .ok (.iload 6, 2) := by decide +kernel
theorem dX12_readLine_129 : decode cX12_readLine 129 = .ok (.bipush 46, 2) := by decide +kernel
theorem dX12_readLine_131 : decode cX12_readLine 131 = .ok (.if_icmp .eq 7, 3) := by decide +kernel
theorem dX12_readLine_134 : decode cX12_readLine 134 = .ok (.iconst 1, 1) := by decide +kernel
theorem dX12_readLine_135 : decode cX12_readLine 135 = .ok (.goto 4, 3) := by decide +kernel
theorem dX12_readLine_138 : decode cX12_readLine 138 = .ok (.iconst 0, 1) := by decide +kernel
theorem dX12_readLine_139 : decode cX12_readLine 139 = .ok (.istore_n 3, 1) := by decide +kernel
theorem dX12_readLine_140 : decode cX12_readLine 140 = .ok (.aload_n 0, 1) := by decide +kernel
theorem dX12_readLine_141 : decode cX12_readLine 141 = .ok (.getfield 55, 3) := by decide +kernel
theorem dX12_readLine_144 : decode cX12_readLine 144 = .ok (.iload_n 1, 1) := by decide +kernel
theorem dX12_readLine_145 : decode cX12_readLine 145 = .ok (.dup2, 1) := by decide +kernel
theorem dX12_readLine_146 : decode cX12_readLine 146 = .ok (.iaload, 1) := by decide +kernel
theorem dX12_readLine_147 : decode cX12_readLine 147 = .ok (.iconst 1, 1) := by decide +kernel
theorem dX12_readLine_148 : decode cX12_readLine 148 = .ok (.iadd, 1) := by decide +kernel
theorem dX12_readLine_149 : decode cX12_readLine 149 = .ok (.iastore, 1) := by decide +kernel
theorem dX12_readLine_150 : decode cX12_readLine 150 = .ok (.iinc 4 1, 3) := by decide +kernel
theorem dX12_readLine_153 : decode cX12_readLine 153 = .ok (.aload_n 0, 1) := by decide +kernel
theorem dX12_readLine_154 : decode cX12_readLine 154 = .ok (.dup, 1) := by decide +kernel
theorem dX12_readLine_155 : decode cX12_readLine 155 = .ok (.getfield 119, 3) := by decide +kernel
theorem dX12_readLine_158 : decode cX12_readLine 158 = .ok (.iconst 1, 1) := by decide +kernel
theorem dX12_readLine_159 : decode cX12_readLine 159 = .ok (.iadd, 1) := by decide +kernel
theorem dX12_readLine_160 : decode cX12_readLine 160 = .ok (.putfield 119, 3) := by decide +kernel
theorem dX12_readLine_163 : decode cX12_readLine 163 = .ok (.iload 7, 2) := by decide +kernel
theorem dX12_readLine_165 : decode cX12_readLine 165 = .ok (.istore 5, 2) := by decide +kernel
theorem dX12_readLine_167 : decode cX12_readLine 167 = .ok (.goto (-159), 3) := by decide +kernel
theorem dX12_readLine_170 : decode cX12_readLine 170 = .ok (.aload_n 0, 1) := by decide +kernel
theorem dX12_readLine_171 : decode cX12_readLine 171 = .ok (.getfield 58, 3) := by decide +kernel
theorem dX12_readLine_174 : decode cX12_readLine 174 = .ok (.iconst 4, 1) := by decide +kernel
theorem dX12_readLine_175 : decode cX12_readLine 175 = .ok (.iload_n 1, 1) := by decide +kernel
theorem dX12_readLine_176 : decode cX12_readLine 176 = .ok (.imul, 1) := by decide +kernel
theorem dX12_readLine_177 : decode cX12_readLine 177 = .ok (.iload_n 2, 1) := by decide +kernel
theorem dX12_readLine_178 : decode cX12_readLine 178 = .ok (.iadd, 1) := by decide +kernel
theorem dX12_readLine_179 : decode cX12_readLine 179 = .ok (.iload 4, 2) := by decide +kernel
theorem dX12_readLine_181 : decode cX12_readLine 181 = .ok (.iastore, 1) := by decide +kernel
theorem dX12_readLine_182 : decode cX12_readLine 182 = .ok (.aload_n 0, 1) := by decide +kernel
theorem dX12_readLine_183 : decode cX12_readLine 183 = .ok (.invokevirtual 138, 3) := by decide +kernel
theorem dX12_readLine_186 : decode cX12_readLine 186 = .ok (.istore 6, 2) := by decide +kernel
theorem dX12_readLine_188 : decode cX12_readLine 188 = .ok (.iload 4, 2) := by decide +kernel
theorem dX12_readLine_190 : decode cX12_readLine 190 = .ok (.ifCond .eq 16, 3) := by decide +kernel
theorem dX12_readLine_193 : decode cX12_readLine 193 = .ok (.iload 6, 2) := by decide +kernel
theorem dX12_readLine_195 : decode cX12_readLine 195 = .ok (.iconst (-1), 1) := by decide +kernel
theorem dX12_readLine_196 : decode cX12_readLine 196 = .ok (.if_icmp .eq 14, 3) := by decide +kernel
theorem dX12_readLine_199 : decode cX12_readLine 199 = .ok (.iload 6, 2) := by decide +kernel
theorem dX12_readLine_201 : decode cX12_readLine 201 = .ok (.bipush 47, 2) := by decide +kernel
theorem dX12_readLine_203 : decode cX12_readLine 203 = .ok (.if_icmp .eq 7, 3) := by decide +kernel
theorem dX12_readLine_206 : decode cX12_readLine 206 = .ok (.aload_n 0, 1) := by decide +kernel
theorem dX12_readLine_207 : decode cX12_readLine 207 = .ok (.invokevirtual 135, 3) := by decide +kernel
theorem dX12_readLine_210 : decode cX12_readLine 210 = .ok (.iload_n 3, 1) := by decide +kernel
theorem dX12_readLine_211 : decode cX12_readLine 211 = .ok (.ireturn, 1) := by decide +kernel
def kX12_readLine_0 (g : sk_G) (d ck sk : Nat) (Q : sk_P) : sk_K := o_i (0) (o_istore 3 (o_i (0) (o_istore 4 (o_i (1) (o_istore 5 (sk_B (g, d, ck, sk, xX12_readLine, Q) 8))))))
theorem tX12_readLine_0 {g : sk_G} {d ck sk : Nat} {Q : sk_P} : sk_S (g, d, ck, sk, xX12_readLine, Q) 0 (kX12_readLine_0 g d ck sk Q) := s_iconst dX12_readLine_0 (s_istore_n dX12_readLine_1 rfl (by decide : 3 < 9) (s_iconst dX12_readLine_2 (s_istore dX12_readLine_3 (by decide : 4 < 9) (s_iconst dX12_readLine_5 (s_istore dX12_readLine_6 (by decide : 5 < 9) (sk_id))))))
set_option maxRecDepth 20000 in
def kX12_readLine_8 (g : sk_G) (d ck sk : Nat) (Q : sk_P) : sk_K := o_iload 5 (o_ifeq (o_aload 0 (o_getf 12 26 (o_i (4) (o_iload 1 (o_imul (o_iload 2 (o_iadd (o_iload 4 (o_iastore (o_aload 0 (o_invB (g, d, ck, sk, xX12_readLine, Q) xX12_look 0 12 0 0 (o_istore 6 (o_iload 4 (o_ifeq (o_aload 0 (o_invT (g, d, ck, sk, xX12_readLine, Q) 1 0 12 (fun Q => kX12_bad_0 g (d - 1) 0 0 Q) (o_iload 3 (o_zret (g, d, ck, sk, xX12_readLine, Q))))) (o_iload 6 (o_i (-1) (o_iceq (o_iload 3 (o_zret (g, d, ck, sk, xX12_readLine, Q))) (o_iload 6 (o_i (47) (o_iceq (o_iload 3 (o_zret (g, d, ck, sk, xX12_readLine, Q))) (o_aload 0 (o_invT (g, d, ck, sk, xX12_readLine, Q) 1 0 12 (fun Q => kX12_bad_0 g (d - 1) 0 0 Q) (o_iload 3 (o_zret (g, d, ck, sk, xX12_readLine, Q))))))))))))))))))))))))) (o_aload 0 (o_invB (g, d, ck, sk, xX12_readLine, Q) xX12_look 0 12 0 0 (o_istore 6 (o_iload 6 (o_i (-1) (o_iceq (o_i (0) (sk_B (g, d, ck, sk, xX12_readLine, Q) 56)) (o_iload 6 (o_stcT (g, d, ck, sk, xX12_readLine, Q) 1 1 (fun Q => kX12_isInk_0 g (d - 1) 0 0 Q) (o_ifeq (o_i (0) (sk_B (g, d, ck, sk, xX12_readLine, Q) 56)) (o_iload 4 (o_i (8) (o_icge (o_i (0) (sk_B (g, d, ck, sk, xX12_readLine, Q) 56)) (o_aload 0 (o_getf 12 25 (o_iload 1 (o_iaload (o_i (16) (o_icge (o_i (0) (sk_B (g, d, ck, sk, xX12_readLine, Q) 56)) (o_i (1) (sk_B (g, d, ck, sk, xX12_readLine, Q) 56)))))))))))))))))))))
set_option maxRecDepth 20000 in
theorem tX12_readLine_8 {g : sk_G} {d ck sk : Nat} {Q : sk_P} : sk_S (g, d, ck, sk, xX12_readLine, Q) 8 (kX12_readLine_8 g d ck sk Q) := s_iload dX12_readLine_8 (s_ifeq (tgt := 170) dX12_readLine_10 (by decide) (s_aload_n dX12_readLine_170 rfl (s_getf (ci := 12) (j := 26) (C := RX12) (T := TX12) (N := 49) dX12_readLine_171 rfl (by decide) (by decide) qf_X12_58 (s_iconst dX12_readLine_174 (s_iload_n dX12_readLine_175 rfl (s_imul dX12_readLine_176 (s_iload_n dX12_readLine_177 rfl (s_iadd dX12_readLine_178 (s_iload dX12_readLine_179 (s_iastore dX12_readLine_181 (s_aload_n dX12_readLine_182 rfl (s_invB (w' := (g, d, ck, sk, xX12_readLine, Q)) (ci := 12) (ck := 0) (sk := 0) (T := TX12) (N := 49) dX12_readLine_183 m_X12_look rfl (by decide) qm_X12_138 qi_X12_look qe_X12_look rfl (s_istore dX12_readLine_186 (by decide : 6 < 9) (s_iload dX12_readLine_188 (s_ifeq (tgt := 206) dX12_readLine_190 (by decide) (s_aload_n dX12_readLine_206 rfl (s_invT (X := xX12_bad) (ci := 12) (T := TX12) (N := 49) (K := (fun Q => kX12_bad_0 g (d - 1) 0 0 Q)) (fun _ => tX12_bad_0) rfl dX12_readLine_207 m_X12_bad rfl (by decide) qm_X12_135 qi_X12_bad qe_X12_bad (s_iload_n dX12_readLine_210 rfl (s_zret dX12_readLine_211 rfl)))) (s_iload dX12_readLine_193 (s_iconst dX12_readLine_195 (s_iceq (tgt := 210) dX12_readLine_196 (by decide) (s_iload_n dX12_readLine_210 rfl (s_zret dX12_readLine_211 rfl)) (s_iload dX12_readLine_199 (s_bipush dX12_readLine_201 rfl (s_iceq (tgt := 210) dX12_readLine_203 (by decide) (s_iload_n dX12_readLine_210 rfl (s_zret dX12_readLine_211 rfl)) (s_aload_n dX12_readLine_206 rfl (s_invT (X := xX12_bad) (ci := 12) (T := TX12) (N := 49) (K := (fun Q => kX12_bad_0 g (d - 1) 0 0 Q)) (fun _ => tX12_bad_0) rfl dX12_readLine_207 m_X12_bad rfl (by decide) qm_X12_135 qi_X12_bad qe_X12_bad (s_iload_n dX12_readLine_210 rfl (s_zret dX12_readLine_211 rfl)))))))))))))))))))))))) (s_aload_n dX12_readLine_13 rfl (s_invB (w' := (g, d, ck, sk, xX12_readLine, Q)) (ci := 12) (ck := 0) (sk := 0) (T := TX12) (N := 49) dX12_readLine_14 m_X12_look rfl (by decide) qm_X12_138 qi_X12_look qe_X12_look rfl (s_istore dX12_readLine_17 (by decide : 6 < 9) (s_iload dX12_readLine_19 (s_iconst dX12_readLine_21 (s_iceq (tgt := 55) dX12_readLine_22 (by decide) (s_iconst dX12_readLine_55 (sk_id)) (s_iload dX12_readLine_25 (s_stcT (X := xX12_isInk) (K := (fun Q => kX12_isInk_0 g (d - 1) 0 0 Q)) (fun _ => tX12_isInk_0) rfl dX12_readLine_27 m_X12_isInk qm_X12_255 qs_X12_isInk (s_ifeq (tgt := 55) dX12_readLine_30 (by decide) (s_iconst dX12_readLine_55 (sk_id)) (s_iload dX12_readLine_33 (s_bipush dX12_readLine_35 rfl (s_icge (tgt := 55) dX12_readLine_37 (by decide) (s_iconst dX12_readLine_55 (sk_id)) (s_aload_n dX12_readLine_40 rfl (s_getf (ci := 12) (j := 25) (C := RX12) (T := TX12) (N := 49) dX12_readLine_41 rfl (by decide) (by decide) qf_X12_55 (s_iload_n dX12_readLine_44 rfl (s_iaload dX12_readLine_45 (s_bipush dX12_readLine_46 rfl (s_icge (tgt := 55) dX12_readLine_48 (by decide) (s_iconst dX12_readLine_55 (sk_id)) (s_iconst dX12_readLine_51 (s_goto (tgt := 56) dX12_readLine_52 (by decide) (sk_id))))))))))))))))))))))
set_option maxRecDepth 20000 in
def kX12_readLine_56 (g : sk_G) (d ck sk : Nat) (Q : sk_P) : sk_K := o_istore 7 (o_iload 7 (o_ifeq (o_iload 7 (o_istore 5 (sk_B (g, d, ck, sk, xX12_readLine, Q) 8))) (o_i (3) (o_i (16) (o_iload 1 (o_imul (o_aload 0 (o_getf 12 25 (o_iload 1 (o_iaload (o_iadd (o_imul (o_istore 8 (o_aload 0 (o_getf 12 24 (o_iload 8 (o_iload 6 (o_i (46) (o_icne (o_iload 6 (o_i (97) (o_isub (sk_B (g, d, ck, sk, xX12_readLine, Q) 101)))) (o_i (26) (sk_B (g, d, ck, sk, xX12_readLine, Q) 101)))))))))))))))))))))
set_option maxRecDepth 20000 in
theorem tX12_readLine_56 {g : sk_G} {d ck sk : Nat} {Q : sk_P} : sk_S (g, d, ck, sk, xX12_readLine, Q) 56 (kX12_readLine_56 g d ck sk Q) := s_istore dX12_readLine_56 (by decide : 7 < 9) (s_iload dX12_readLine_58 (s_ifeq (tgt := 163) dX12_readLine_60 (by decide) (s_iload dX12_readLine_163 (s_istore dX12_readLine_165 (by decide : 5 < 9) (s_goto (tgt := 8) dX12_readLine_167 (by decide) (sk_id)))) (s_iconst dX12_readLine_63 (s_bipush dX12_readLine_64 rfl (s_iload_n dX12_readLine_66 rfl (s_imul dX12_readLine_67 (s_aload_n dX12_readLine_68 rfl (s_getf (ci := 12) (j := 25) (C := RX12) (T := TX12) (N := 49) dX12_readLine_69 rfl (by decide) (by decide) qf_X12_55 (s_iload_n dX12_readLine_72 rfl (s_iaload dX12_readLine_73 (s_iadd dX12_readLine_74 (s_imul dX12_readLine_75 (s_istore dX12_readLine_76 (by decide : 8 < 9) (s_aload_n dX12_readLine_78 rfl (s_getf (ci := 12) (j := 24) (C := RX12) (T := TX12) (N := 49) dX12_readLine_79 rfl (by decide) (by decide) qf_X12_52 (s_iload dX12_readLine_82 (s_iload dX12_readLine_84 (s_bipush dX12_readLine_86 rfl (s_icne (tgt := 96) dX12_readLine_88 (by decide) (s_iload dX12_readLine_96 (s_bipush dX12_readLine_98 rfl (s_isub dX12_readLine_100 (sk_id)))) (s_bipush dX12_readLine_91 rfl (s_goto (tgt := 101) dX12_readLine_93 (by decide) (sk_id))))))))))))))))))))))
set_option maxRecDepth 20000 in
def kX12_readLine_101 (g : sk_G) (d ck sk : Nat) (Q : sk_P) : sk_K := o_iastore (o_aload 0 (o_getf 12 24 (o_iload 8 (o_i (1) (o_iadd (o_iload 2 (o_iastore (o_aload 0 (o_getf 12 24 (o_iload 8 (o_i (2) (o_iadd (o_iload 4 (o_iastore (o_iload 3 (o_ifne (o_i (1) (sk_B (g, d, ck, sk, xX12_readLine, Q) 139)) (o_iload 6 (o_i (46) (o_iceq (o_i (0) (sk_B (g, d, ck, sk, xX12_readLine, Q) 139)) (o_i (1) (sk_B (g, d, ck, sk, xX12_readLine, Q) 139)))))))))))))))))))))
set_option maxRecDepth 20000 in
theorem tX12_readLine_101 {g : sk_G} {d ck sk : Nat} {Q : sk_P} : sk_S (g, d, ck, sk, xX12_readLine, Q) 101 (kX12_readLine_101 g d ck sk Q) := s_iastore dX12_readLine_101 (s_aload_n dX12_readLine_102 rfl (s_getf (ci := 12) (j := 24) (C := RX12) (T := TX12) (N := 49) dX12_readLine_103 rfl (by decide) (by decide) qf_X12_52 (s_iload dX12_readLine_106 (s_iconst dX12_readLine_108 (s_iadd dX12_readLine_109 (s_iload_n dX12_readLine_110 rfl (s_iastore dX12_readLine_111 (s_aload_n dX12_readLine_112 rfl (s_getf (ci := 12) (j := 24) (C := RX12) (T := TX12) (N := 49) dX12_readLine_113 rfl (by decide) (by decide) qf_X12_52 (s_iload dX12_readLine_116 (s_iconst dX12_readLine_118 (s_iadd dX12_readLine_119 (s_iload dX12_readLine_120 (s_iastore dX12_readLine_122 (s_iload_n dX12_readLine_123 rfl (s_ifne (tgt := 134) dX12_readLine_124 (by decide) (s_iconst dX12_readLine_134 (s_goto (tgt := 139) dX12_readLine_135 (by decide) (sk_id))) (s_iload dX12_readLine_127 (s_bipush dX12_readLine_129 rfl (s_iceq (tgt := 138) dX12_readLine_131 (by decide) (s_iconst dX12_readLine_138 (sk_id)) (s_iconst dX12_readLine_134 (s_goto (tgt := 139) dX12_readLine_135 (by decide) (sk_id))))))))))))))))))))))
set_option maxRecDepth 20000 in
def kX12_readLine_139 (g : sk_G) (d ck sk : Nat) (Q : sk_P) : sk_K := o_istore 3 (o_aload 0 (o_getf 12 25 (o_iload 1 (o_dup2 (o_iaload (o_i (1) (o_iadd (o_iastore (o_iinc 4 (1) (o_aload 0 (o_dup (o_getf 12 3 (o_i (1) (o_iadd (o_puti 12 3 (o_iload 7 (o_istore 5 (sk_B (g, d, ck, sk, xX12_readLine, Q) 8))))))))))))))))))
set_option maxRecDepth 20000 in
theorem tX12_readLine_139 {g : sk_G} {d ck sk : Nat} {Q : sk_P} : sk_S (g, d, ck, sk, xX12_readLine, Q) 139 (kX12_readLine_139 g d ck sk Q) := s_istore_n dX12_readLine_139 rfl (by decide : 3 < 9) (s_aload_n dX12_readLine_140 rfl (s_getf (ci := 12) (j := 25) (C := RX12) (T := TX12) (N := 49) dX12_readLine_141 rfl (by decide) (by decide) qf_X12_55 (s_iload_n dX12_readLine_144 rfl (s_dup2 dX12_readLine_145 (s_iaload dX12_readLine_146 (s_iconst dX12_readLine_147 (s_iadd dX12_readLine_148 (s_iastore dX12_readLine_149 (s_iinc dX12_readLine_150 (by decide : 4 < 9) (s_aload_n dX12_readLine_153 rfl (s_dup dX12_readLine_154 (s_getf (ci := 12) (j := 3) (C := RX12) (T := TX12) (N := 49) dX12_readLine_155 rfl (by decide) (by decide) qf_X12_119 (s_iconst dX12_readLine_158 (s_iadd dX12_readLine_159 (s_puti (ci := 12) (j := 3) (C := RX12) (T := TX12) (N := 49) dX12_readLine_160 rfl (by decide) (by decide) rfl (tyX12_ok 3 (by decide)) qf_X12_119 (s_iload dX12_readLine_163 (s_istore dX12_readLine_165 (by decide : 5 < 9) (s_goto (tgt := 8) dX12_readLine_167 (by decide) (sk_id)))))))))))))))))))
theorem dX12_text_0 : decode cX12_text 0 = .ok (.iload_n 1, 1) := by decide +kernel
theorem dX12_text_1 : decode cX12_text 1 = .ok (.ifCond .ne 21, 3) := by decide +kernel
theorem dX12_text_4 : decode cX12_text 4 = .ok (.aload_n 0, 1) := by decide +kernel
theorem dX12_text_5 : decode cX12_text 5 = .ok (.invokevirtual 261, 3) := by decide +kernel
theorem dX12_text_8 : decode cX12_text 8 = .ok (.iconst (-1), 1) := by decide +kernel
theorem dX12_text_9 : decode cX12_text 9 = .ok (.if_icmp .ne 13, 3) := by decide +kernel
theorem dX12_text_12 : decode cX12_text 12 = .ok (.aload_n 0, 1) := by decide +kernel
theorem dX12_text_13 : decode cX12_text 13 = .ok (.iconst 0, 1) := by decide +kernel
theorem dX12_text_14 : decode cX12_text 14 = .ok (.putfield 116, 3) := by decide +kernel
theorem dX12_text_17 : decode cX12_text 17 = .ok (.aload_n 0, 1) := by decide +kernel
theorem dX12_text_18 : decode cX12_text 18 = .ok (.invokevirtual 286, 3) := by decide +kernel
theorem dX12_text_21 : decode cX12_text 21 = .ok (.ireturn, 1) := by decide +kernel
theorem dX12_text_22 : decode cX12_text 22 = .ok (.iload_n 1, 1) := by decide +kernel
theorem dX12_text_23 : decode cX12_text 23 = .ok (.iconst 1, 1) := by decide +kernel
theorem dX12_text_24 : decode cX12_text 24 = .ok (.if_icmp .ne 45, 3) := by decide +kernel
theorem dX12_text_27 : decode cX12_text 27 = .ok (.aload_n 0, 1) := by decide +kernel
theorem dX12_text_28 : decode cX12_text 28 = .ok (.getfield 289, 3) := by decide +kernel
theorem dX12_text_31 : decode cX12_text 31 = .ok (.iconst 4, 1) := by decide +kernel
theorem dX12_text_32 : decode cX12_text 32 = .ok (.if_icmp .ge 37, 3) := by decide +kernel
theorem dX12_text_35 : decode cX12_text 35 = .ok (.aload_n 0, 1) := by decide +kernel
theorem dX12_text_36 : decode cX12_text 36 = .ok (.aload_n 0, 1) := by decide +kernel
theorem dX12_text_37 : decode cX12_text 37 = .ok (.getfield 289, 3) := by decide +kernel
theorem dX12_text_40 : decode cX12_text 40 = .ok (.invokevirtual 264, 3) := by decide +kernel
theorem dX12_text_43 : decode cX12_text 43 = .ok (.iconst (-1), 1) := by decide +kernel
theorem dX12_text_44 : decode cX12_text 44 = .ok (.if_icmp .ne 25, 3) := by decide +kernel
theorem dX12_text_47 : decode cX12_text 47 = .ok (.aload_n 0, 1) := by decide +kernel
theorem dX12_text_48 : decode cX12_text 48 = .ok (.iconst 0, 1) := by decide +kernel
theorem dX12_text_49 : decode cX12_text 49 = .ok (.putfield 116, 3) := by decide +kernel
theorem dX12_text_52 : decode cX12_text 52 = .ok (.aload_n 0, 1) := by decide +kernel
theorem dX12_text_53 : decode cX12_text 53 = .ok (.dup, 1) := by decide +kernel
theorem dX12_text_54 : decode cX12_text 54 = .ok (.getfield 289, 3) := by decide +kernel
theorem dX12_text_57 : decode cX12_text 57 = .ok (.iconst 1, 1) := by decide +kernel
theorem dX12_text_58 : decode cX12_text 58 = .ok (.iadd, 1) := by decide +kernel
theorem dX12_text_59 : decode cX12_text 59 = .ok (.putfield 289, 3) := by decide +kernel
theorem dX12_text_62 : decode cX12_text 62 = .ok (.aload_n 0, 1) := by decide +kernel
theorem dX12_text_63 : decode cX12_text 63 = .ok (.getfield 289, 3) := by decide +kernel
theorem dX12_text_66 : decode cX12_text 66 = .ok (.iconst 1, 1) := by decide +kernel
theorem dX12_text_67 : decode cX12_text 67 = .ok (.isub, 1) := by decide +kernel
theorem dX12_text_68 : decode cX12_text 68 = .ok (.ireturn, 1) := by decide +kernel
theorem dX12_text_69 : decode cX12_text 69 = .ok (.iload_n 1, 1) := by decide +kernel
theorem dX12_text_70 : decode cX12_text 70 = .ok (.iconst 2, 1) := by decide +kernel
theorem dX12_text_71 : decode cX12_text 71 = .ok (.if_icmp .ne 46, 3) := by decide +kernel
theorem dX12_text_74 : decode cX12_text 74 = .ok (.aload_n 0, 1) := by decide +kernel
theorem dX12_text_75 : decode cX12_text 75 = .ok (.getfield 292, 3) := by decide +kernel
theorem dX12_text_78 : decode cX12_text 78 = .ok (.bipush 6, 2) := by decide +kernel
theorem dX12_text_80 : decode cX12_text 80 = .ok (.if_icmp .ge 37, 3) := by decide +kernel
theorem dX12_text_83 : decode cX12_text 83 = .ok (.aload_n 0, 1) := by decide +kernel
theorem dX12_text_84 : decode cX12_text 84 = .ok (.aload_n 0, 1) := by decide +kernel
theorem dX12_text_85 : decode cX12_text 85 = .ok (.getfield 292, 3) := by decide +kernel
theorem dX12_text_88 : decode cX12_text 88 = .ok (.invokevirtual 267, 3) := by decide +kernel
theorem dX12_text_91 : decode cX12_text 91 = .ok (.iconst (-1), 1) := by decide +kernel
theorem dX12_text_92 : decode cX12_text 92 = .ok (.if_icmp .ne 25, 3) := by decide +kernel
theorem dX12_text_95 : decode cX12_text 95 = .ok (.aload_n 0, 1) := by decide +kernel
theorem dX12_text_96 : decode cX12_text 96 = .ok (.iconst 0, 1) := by decide +kernel
theorem dX12_text_97 : decode cX12_text 97 = .ok (.putfield 116, 3) := by decide +kernel
theorem dX12_text_100 : decode cX12_text 100 = .ok (.aload_n 0, 1) := by decide +kernel
theorem dX12_text_101 : decode cX12_text 101 = .ok (.dup, 1) := by decide +kernel
theorem dX12_text_102 : decode cX12_text 102 = .ok (.getfield 292, 3) := by decide +kernel
theorem dX12_text_105 : decode cX12_text 105 = .ok (.iconst 1, 1) := by decide +kernel
theorem dX12_text_106 : decode cX12_text 106 = .ok (.iadd, 1) := by decide +kernel
theorem dX12_text_107 : decode cX12_text 107 = .ok (.putfield 292, 3) := by decide +kernel
theorem dX12_text_110 : decode cX12_text 110 = .ok (.aload_n 0, 1) := by decide +kernel
theorem dX12_text_111 : decode cX12_text 111 = .ok (.getfield 292, 3) := by decide +kernel
theorem dX12_text_114 : decode cX12_text 114 = .ok (.iconst 1, 1) := by decide +kernel
theorem dX12_text_115 : decode cX12_text 115 = .ok (.isub, 1) := by decide +kernel
theorem dX12_text_116 : decode cX12_text 116 = .ok (.ireturn, 1) := by decide +kernel
theorem dX12_text_117 : decode cX12_text 117 = .ok (.iconst (-1), 1) := by decide +kernel
theorem dX12_text_118 : decode cX12_text 118 = .ok (.ireturn, 1) := by decide +kernel
set_option maxRecDepth 20000 in
def kX12_text_0 (g : sk_G) (d ck sk : Nat) (Q : sk_P) : sk_K := o_iload 1 (o_ifne (sk_B (g, d, ck, sk, xX12_text, Q) 22) (o_aload 0 (o_invB (g, d, ck, sk, xX12_text, Q) xX12_readSkin 0 12 0 0 (o_i (-1) (o_icne (sk_B (g, d, ck, sk, xX12_text, Q) 22) (o_aload 0 (o_i (0) (o_puti 12 2 (o_aload 0 (o_invB (g, d, ck, sk, xX12_text, Q) xX12_takeSkin 0 12 0 0 (o_iret (g, d, ck, sk, xX12_text, Q))))))))))))
set_option maxRecDepth 20000 in
theorem tX12_text_0 {g : sk_G} {d ck sk : Nat} {Q : sk_P} : sk_S (g, d, ck, sk, xX12_text, Q) 0 (kX12_text_0 g d ck sk Q) := s_iload_n dX12_text_0 rfl (s_ifne (tgt := 22) dX12_text_1 (by decide) (sk_id) (s_aload_n dX12_text_4 rfl (s_invB (w' := (g, d, ck, sk, xX12_text, Q)) (ci := 12) (ck := 0) (sk := 0) (T := TX12) (N := 49) dX12_text_5 m_X12_readSkin rfl (by decide) qm_X12_261 qi_X12_readSkin qe_X12_readSkin rfl (s_iconst dX12_text_8 (s_icne (tgt := 22) dX12_text_9 (by decide) (sk_id) (s_aload_n dX12_text_12 rfl (s_iconst dX12_text_13 (s_puti (ci := 12) (j := 2) (C := RX12) (T := TX12) (N := 49) dX12_text_14 rfl (by decide) (by decide) rfl (tyX12_ok 2 (by decide)) qf_X12_116 (s_aload_n dX12_text_17 rfl (s_invB (w' := (g, d, ck, sk, xX12_text, Q)) (ci := 12) (ck := 0) (sk := 0) (T := TX12) (N := 49) dX12_text_18 m_X12_takeSkin rfl (by decide) qm_X12_286 qi_X12_takeSkin qe_X12_takeSkin rfl (s_iret dX12_text_21 rfl)))))))))))
set_option maxRecDepth 20000 in
def kX12_text_22 (g : sk_G) (d ck sk : Nat) (Q : sk_P) : sk_K := o_iload 1 (o_i (1) (o_icne (sk_B (g, d, ck, sk, xX12_text, Q) 69) (o_aload 0 (o_getf 12 13 (o_i (4) (o_icge (sk_B (g, d, ck, sk, xX12_text, Q) 69) (o_aload 0 (o_aload 0 (o_getf 12 13 (o_invB (g, d, ck, sk, xX12_text, Q) xX12_readLaw 1 12 0 0 (o_i (-1) (o_icne (sk_B (g, d, ck, sk, xX12_text, Q) 69) (o_aload 0 (o_i (0) (o_puti 12 2 (o_aload 0 (o_dup (o_getf 12 13 (o_i (1) (o_iadd (o_puti 12 13 (o_aload 0 (o_getf 12 13 (o_i (1) (o_isub (o_iret (g, d, ck, sk, xX12_text, Q)))))))))))))))))))))))))))
set_option maxRecDepth 20000 in
theorem tX12_text_22 {g : sk_G} {d ck sk : Nat} {Q : sk_P} : sk_S (g, d, ck, sk, xX12_text, Q) 22 (kX12_text_22 g d ck sk Q) := s_iload_n dX12_text_22 rfl (s_iconst dX12_text_23 (s_icne (tgt := 69) dX12_text_24 (by decide) (sk_id) (s_aload_n dX12_text_27 rfl (s_getf (ci := 12) (j := 13) (C := RX12) (T := TX12) (N := 49) dX12_text_28 rfl (by decide) (by decide) qf_X12_289 (s_iconst dX12_text_31 (s_icge (tgt := 69) dX12_text_32 (by decide) (sk_id) (s_aload_n dX12_text_35 rfl (s_aload_n dX12_text_36 rfl (s_getf (ci := 12) (j := 13) (C := RX12) (T := TX12) (N := 49) dX12_text_37 rfl (by decide) (by decide) qf_X12_289 (s_invB (w' := (g, d, ck, sk, xX12_text, Q)) (ci := 12) (ck := 0) (sk := 0) (T := TX12) (N := 49) dX12_text_40 m_X12_readLaw rfl (by decide) qm_X12_264 qi_X12_readLaw qe_X12_readLaw rfl (s_iconst dX12_text_43 (s_icne (tgt := 69) dX12_text_44 (by decide) (sk_id) (s_aload_n dX12_text_47 rfl (s_iconst dX12_text_48 (s_puti (ci := 12) (j := 2) (C := RX12) (T := TX12) (N := 49) dX12_text_49 rfl (by decide) (by decide) rfl (tyX12_ok 2 (by decide)) qf_X12_116 (s_aload_n dX12_text_52 rfl (s_dup dX12_text_53 (s_getf (ci := 12) (j := 13) (C := RX12) (T := TX12) (N := 49) dX12_text_54 rfl (by decide) (by decide) qf_X12_289 (s_iconst dX12_text_57 (s_iadd dX12_text_58 (s_puti (ci := 12) (j := 13) (C := RX12) (T := TX12) (N := 49) dX12_text_59 rfl (by decide) (by decide) rfl (tyX12_ok 13 (by decide)) qf_X12_289 (s_aload_n dX12_text_62 rfl (s_getf (ci := 12) (j := 13) (C := RX12) (T := TX12) (N := 49) dX12_text_63 rfl (by decide) (by decide) qf_X12_289 (s_iconst dX12_text_66 (s_isub dX12_text_67 (s_iret dX12_text_68 rfl))))))))))))))))))))))))))
set_option maxRecDepth 20000 in
def kX12_text_69 (g : sk_G) (d ck sk : Nat) (Q : sk_P) : sk_K := o_iload 1 (o_i (2) (o_icne (o_i (-1) (o_iret (g, d, ck, sk, xX12_text, Q))) (o_aload 0 (o_getf 12 27 (o_i (6) (o_icge (o_i (-1) (o_iret (g, d, ck, sk, xX12_text, Q))) (o_aload 0 (o_aload 0 (o_getf 12 27 (o_invB (g, d, ck, sk, xX12_text, Q) xX12_readWriting 1 12 0 0 (o_i (-1) (o_icne (o_i (-1) (o_iret (g, d, ck, sk, xX12_text, Q))) (o_aload 0 (o_i (0) (o_puti 12 2 (o_aload 0 (o_dup (o_getf 12 27 (o_i (1) (o_iadd (o_puti 12 27 (o_aload 0 (o_getf 12 27 (o_i (1) (o_isub (o_iret (g, d, ck, sk, xX12_text, Q)))))))))))))))))))))))))))
set_option maxRecDepth 20000 in
theorem tX12_text_69 {g : sk_G} {d ck sk : Nat} {Q : sk_P} : sk_S (g, d, ck, sk, xX12_text, Q) 69 (kX12_text_69 g d ck sk Q) := s_iload_n dX12_text_69 rfl (s_iconst dX12_text_70 (s_icne (tgt := 117) dX12_text_71 (by decide) (s_iconst dX12_text_117 (s_iret dX12_text_118 rfl)) (s_aload_n dX12_text_74 rfl (s_getf (ci := 12) (j := 27) (C := RX12) (T := TX12) (N := 49) dX12_text_75 rfl (by decide) (by decide) qf_X12_292 (s_bipush dX12_text_78 rfl (s_icge (tgt := 117) dX12_text_80 (by decide) (s_iconst dX12_text_117 (s_iret dX12_text_118 rfl)) (s_aload_n dX12_text_83 rfl (s_aload_n dX12_text_84 rfl (s_getf (ci := 12) (j := 27) (C := RX12) (T := TX12) (N := 49) dX12_text_85 rfl (by decide) (by decide) qf_X12_292 (s_invB (w' := (g, d, ck, sk, xX12_text, Q)) (ci := 12) (ck := 0) (sk := 0) (T := TX12) (N := 49) dX12_text_88 m_X12_readWriting rfl (by decide) qm_X12_267 qi_X12_readWriting qe_X12_readWriting rfl (s_iconst dX12_text_91 (s_icne (tgt := 117) dX12_text_92 (by decide) (s_iconst dX12_text_117 (s_iret dX12_text_118 rfl)) (s_aload_n dX12_text_95 rfl (s_iconst dX12_text_96 (s_puti (ci := 12) (j := 2) (C := RX12) (T := TX12) (N := 49) dX12_text_97 rfl (by decide) (by decide) rfl (tyX12_ok 2 (by decide)) qf_X12_116 (s_aload_n dX12_text_100 rfl (s_dup dX12_text_101 (s_getf (ci := 12) (j := 27) (C := RX12) (T := TX12) (N := 49) dX12_text_102 rfl (by decide) (by decide) qf_X12_292 (s_iconst dX12_text_105 (s_iadd dX12_text_106 (s_puti (ci := 12) (j := 27) (C := RX12) (T := TX12) (N := 49) dX12_text_107 rfl (by decide) (by decide) rfl (tyX12_ok 27 (by decide)) qf_X12_292 (s_aload_n dX12_text_110 rfl (s_getf (ci := 12) (j := 27) (C := RX12) (T := TX12) (N := 49) dX12_text_111 rfl (by decide) (by decide) qf_X12_292 (s_iconst dX12_text_114 (s_isub dX12_text_115 (s_iret dX12_text_116 rfl))))))))))))))))))))))))))
theorem dX12_takeSkin_0 : decode cX12_takeSkin 0 = .ok (.aload_n 0, 1) := by decide +kernel
theorem dX12_takeSkin_1 : decode cX12_takeSkin 1 = .ok (.aload_n 0, 1) := by decide +kernel
theorem dX12_takeSkin_2 : decode cX12_takeSkin 2 = .ok (.getfield 248, 3) := by decide +kernel
theorem dX12_takeSkin_5 : decode cX12_takeSkin 5 = .ok (.putfield 270, 3) := by decide +kernel
theorem dX12_takeSkin_8 : decode cX12_takeSkin 8 = .ok (.iconst 0, 1) := by decide +kernel
theorem dX12_takeSkin_9 : decode cX12_takeSkin 9 = .ok (.istore_n 1, 1) := by decide +kernel
theorem dX12_takeSkin_10 : decode cX12_takeSkin 10 = .ok (.iload_n 1, 1) := by decide +kernel
theorem dX12_takeSkin_11 : decode cX12_takeSkin 11 = .ok (.iconst 4, 1) := by decide +kernel
theorem dX12_takeSkin_12 : decode cX12_takeSkin 12 = .ok (.if_icmp .ge 21, 3) := by decide +kernel
theorem dX12_takeSkin_15 : decode cX12_takeSkin 15 = .ok (.aload_n 0, 1) := by decide +kernel
theorem dX12_takeSkin_16 : decode cX12_takeSkin 16 = .ok (.getfield 46, 3) := by decide +kernel
theorem dX12_takeSkin_19 : decode cX12_takeSkin 19 = .ok (.iload_n 1, 1) := by decide +kernel
theorem dX12_takeSkin_20 : decode cX12_takeSkin 20 = .ok (.aload_n 0, 1) := by decide +kernel
theorem dX12_takeSkin_21 : decode cX12_takeSkin 21 = .ok (.getfield 40, 3) := by decide +kernel
theorem dX12_takeSkin_24 : decode cX12_takeSkin 24 = .ok (.iload_n 1, 1) := by decide +kernel
theorem dX12_takeSkin_25 : decode cX12_takeSkin 25 = .ok (.iaload, 1) := by decide +kernel
theorem dX12_takeSkin_26 : decode cX12_takeSkin 26 = .ok (.iastore, 1) := by decide +kernel
theorem dX12_takeSkin_27 : decode cX12_takeSkin 27 = .ok (.iinc 1 1, 3) := by decide +kernel
theorem dX12_takeSkin_30 : decode cX12_takeSkin 30 = .ok (.goto (-20), 3) := by decide +kernel
theorem dX12_takeSkin_33 : decode cX12_takeSkin 33 = .ok (.aload_n 0, 1) := by decide +kernel
theorem dX12_takeSkin_34 : decode cX12_takeSkin 34 = .ok (.aload_n 0, 1) := by decide +kernel
theorem dX12_takeSkin_35 : decode cX12_takeSkin 35 = .ok (.getfield 46, 3) := by decide +kernel
theorem dX12_takeSkin_38 : decode cX12_takeSkin 38 = .ok (.iconst 0, 1) := by decide +kernel
theorem dX12_takeSkin_39 : decode cX12_takeSkin 39 = .ok (.iaload, 1) := by decide +kernel
theorem dX12_takeSkin_40 : decode cX12_takeSkin 40 = .ok (.aload_n 0, 1) := by decide +kernel
theorem dX12_takeSkin_41 : decode cX12_takeSkin 41 = .ok (.getfield 46, 3) := by decide +kernel
theorem dX12_takeSkin_44 : decode cX12_takeSkin 44 = .ok (.iconst 1, 1) := by decide +kernel
theorem dX12_takeSkin_45 : decode cX12_takeSkin 45 = .ok (.iaload, 1) := by decide +kernel
theorem dX12_takeSkin_46 : decode cX12_takeSkin 46 = .ok (.imul, 1) := by decide +kernel
theorem dX12_takeSkin_47 : decode cX12_takeSkin 47 = .ok (.putfield 273, 3) := by decide +kernel
theorem dX12_takeSkin_50 : decode cX12_takeSkin 50 = .ok (.iconst 0, 1) := by decide +kernel
theorem dX12_takeSkin_51 : decode cX12_takeSkin 51 = .ok (.istore_n 1, 1) := by decide +kernel
theorem dX12_takeSkin_52 : decode cX12_takeSkin 52 = .ok (.iload_n 1, 1) := by decide +kernel
theorem dX12_takeSkin_53 : decode cX12_takeSkin 53 = .ok (.bipush 8, 2) := by decide +kernel
theorem dX12_takeSkin_55 : decode cX12_takeSkin 55 = .ok (.if_icmp .ge 21, 3) := by decide +kernel
theorem dX12_takeSkin_58 : decode cX12_takeSkin 58 = .ok (.aload_n 0, 1) := by decide +kernel
theorem dX12_takeSkin_59 : decode cX12_takeSkin 59 = .ok (.getfield 49, 3) := by decide +kernel
theorem dX12_takeSkin_62 : decode cX12_takeSkin 62 = .ok (.iload_n 1, 1) := by decide +kernel
theorem dX12_takeSkin_63 : decode cX12_takeSkin 63 = .ok (.aload_n 0, 1) := by decide +kernel
theorem dX12_takeSkin_64 : decode cX12_takeSkin 64 = .ok (.getfield 43, 3) := by decide +kernel
theorem dX12_takeSkin_67 : decode cX12_takeSkin 67 = .ok (.iload_n 1, 1) := by decide +kernel
theorem dX12_takeSkin_68 : decode cX12_takeSkin 68 = .ok (.iaload, 1) := by decide +kernel
theorem dX12_takeSkin_69 : decode cX12_takeSkin 69 = .ok (.iastore, 1) := by decide +kernel
theorem dX12_takeSkin_70 : decode cX12_takeSkin 70 = .ok (.iinc 1 1, 3) := by decide +kernel
theorem dX12_takeSkin_73 : decode cX12_takeSkin 73 = .ok (.goto (-21), 3) := by decide +kernel
theorem dX12_takeSkin_76 : decode cX12_takeSkin 76 = .ok (.iconst 0, 1) := by decide +kernel
theorem dX12_takeSkin_77 : decode cX12_takeSkin 77 = .ok (.istore_n 1, 1) := by decide +kernel
theorem dX12_takeSkin_78 : decode cX12_takeSkin 78 = .ok (.iload_n 1, 1) := by decide +kernel
theorem dX12_takeSkin_79 : decode cX12_takeSkin 79 = .ok (.sipush 943, 3) := by decide +kernel
theorem dX12_takeSkin_82 : decode cX12_takeSkin 82 = .ok (.if_icmp .ge 16, 3) := by decide +kernel
theorem dX12_takeSkin_85 : decode cX12_takeSkin 85 = .ok (.aload_n 0, 1) := by decide +kernel
theorem dX12_takeSkin_86 : decode cX12_takeSkin 86 = .ok (.getfield 61, 3) := by decide +kernel
theorem dX12_takeSkin_89 : decode cX12_takeSkin 89 = .ok (.iload_n 1, 1) := by decide +kernel
theorem dX12_takeSkin_90 : decode cX12_takeSkin 90 = .ok (.iconst 0, 1) := by decide +kernel
theorem dX12_takeSkin_91 : decode cX12_takeSkin 91 = .ok (.iastore, 1) := by decide +kernel
theorem dX12_takeSkin_92 : decode cX12_takeSkin 92 = .ok (.iinc 1 1, 3) := by decide +kernel
theorem dX12_takeSkin_95 : decode cX12_takeSkin 95 = .ok (.goto (-17), 3) := by decide +kernel
theorem dX12_takeSkin_98 : decode cX12_takeSkin 98 = .ok (.aload_n 0, 1) := by decide +kernel
theorem dX12_takeSkin_99 : decode cX12_takeSkin 99 = .ok (.getfield 61, 3) := by decide +kernel
theorem dX12_takeSkin_102 : decode cX12_takeSkin 102 = .ok (.sipush 760, 3) := by decide +kernel
theorem dX12_takeSkin_105 : decode cX12_takeSkin 105 = .ok (.aload_n 0, 1) := by decide +kernel
theorem dX12_takeSkin_106 : decode cX12_takeSkin 106 = .ok (.getfield 46, 3) := by decide +kernel
theorem dX12_takeSkin_109 : decode cX12_takeSkin 109 = .ok (.iconst 3, 1) := by decide +kernel
theorem dX12_takeSkin_110 : decode cX12_takeSkin 110 = .ok (.iaload, 1) := by decide +kernel
theorem dX12_takeSkin_111 : decode cX12_takeSkin 111 = .ok (.iastore, 1) := by decide +kernel
theorem dX12_takeSkin_112 : decode cX12_takeSkin 112 = .ok (.aload_n 0, 1) := by decide +kernel
theorem dX12_takeSkin_113 : decode cX12_takeSkin 113 = .ok (.iconst 0, 1) := by decide +kernel
theorem dX12_takeSkin_114 : decode cX12_takeSkin 114 = .ok (.putfield 276, 3) := by decide +kernel
theorem dX12_takeSkin_117 : decode cX12_takeSkin 117 = .ok (.aload_n 0, 1) := by decide +kernel
theorem dX12_takeSkin_118 : decode cX12_takeSkin 118 = .ok (.iconst 0, 1) := by decide +kernel
theorem dX12_takeSkin_119 : decode cX12_takeSkin 119 = .ok (.putfield 279, 3) := by decide +kernel
theorem dX12_takeSkin_122 : decode cX12_takeSkin 122 = .ok (.aload_n 0, 1) := by decide +kernel
theorem dX12_takeSkin_123 : decode cX12_takeSkin 123 = .ok (.iconst 0, 1) := by decide +kernel
theorem dX12_takeSkin_124 : decode cX12_takeSkin 124 = .ok (.putfield 282, 3) := by decide +kernel
theorem dX12_takeSkin_127 : decode cX12_takeSkin 127 = .ok (.aload_n 0, 1) := by decide +kernel
theorem dX12_takeSkin_128 : decode cX12_takeSkin 128 = .ok (.getfield 273, 3) := by decide +kernel
theorem dX12_takeSkin_131 : decode cX12_takeSkin 131 = .ok (.ireturn, 1) := by decide +kernel
def kX12_takeSkin_0 (g : sk_G) (d ck sk : Nat) (Q : sk_P) : sk_K := o_aload 0 (o_aload 0 (o_getf 12 19 (o_puti 12 22 (o_i (0) (o_istore 1 (sk_B (g, d, ck, sk, xX12_takeSkin, Q) 10))))))
theorem tX12_takeSkin_0 {g : sk_G} {d ck sk : Nat} {Q : sk_P} : sk_S (g, d, ck, sk, xX12_takeSkin, Q) 0 (kX12_takeSkin_0 g d ck sk Q) := s_aload_n dX12_takeSkin_0 rfl (s_aload_n dX12_takeSkin_1 rfl (s_getf (ci := 12) (j := 19) (C := RX12) (T := TX12) (N := 49) dX12_takeSkin_2 rfl (by decide) (by decide) qf_X12_248 (s_puti (ci := 12) (j := 22) (C := RX12) (T := TX12) (N := 49) dX12_takeSkin_5 rfl (by decide) (by decide) rfl (tyX12_ok 22 (by decide)) qf_X12_270 (s_iconst dX12_takeSkin_8 (s_istore_n dX12_takeSkin_9 rfl (by decide : 1 < 2) (sk_id))))))
set_option maxRecDepth 20000 in
def kX12_takeSkin_10 (g : sk_G) (d ck sk : Nat) (Q : sk_P) : sk_K := o_iload 1 (o_i (4) (o_icge (o_aload 0 (o_aload 0 (o_getf 12 20 (o_i (0) (o_iaload (o_aload 0 (o_getf 12 20 (o_i (1) (o_iaload (o_imul (o_puti 12 23 (o_i (0) (o_istore 1 (sk_B (g, d, ck, sk, xX12_takeSkin, Q) 52)))))))))))))) (o_aload 0 (o_getf 12 20 (o_iload 1 (o_aload 0 (o_getf 12 17 (o_iload 1 (o_iaload (o_iastore (o_iinc 1 (1) (sk_B (g, d, ck, sk, xX12_takeSkin, Q) 10))))))))))))
set_option maxRecDepth 20000 in
theorem tX12_takeSkin_10 {g : sk_G} {d ck sk : Nat} {Q : sk_P} : sk_S (g, d, ck, sk, xX12_takeSkin, Q) 10 (kX12_takeSkin_10 g d ck sk Q) := s_iload_n dX12_takeSkin_10 rfl (s_iconst dX12_takeSkin_11 (s_icge (tgt := 33) dX12_takeSkin_12 (by decide) (s_aload_n dX12_takeSkin_33 rfl (s_aload_n dX12_takeSkin_34 rfl (s_getf (ci := 12) (j := 20) (C := RX12) (T := TX12) (N := 49) dX12_takeSkin_35 rfl (by decide) (by decide) qf_X12_46 (s_iconst dX12_takeSkin_38 (s_iaload dX12_takeSkin_39 (s_aload_n dX12_takeSkin_40 rfl (s_getf (ci := 12) (j := 20) (C := RX12) (T := TX12) (N := 49) dX12_takeSkin_41 rfl (by decide) (by decide) qf_X12_46 (s_iconst dX12_takeSkin_44 (s_iaload dX12_takeSkin_45 (s_imul dX12_takeSkin_46 (s_puti (ci := 12) (j := 23) (C := RX12) (T := TX12) (N := 49) dX12_takeSkin_47 rfl (by decide) (by decide) rfl (tyX12_ok 23 (by decide)) qf_X12_273 (s_iconst dX12_takeSkin_50 (s_istore_n dX12_takeSkin_51 rfl (by decide : 1 < 2) (sk_id)))))))))))))) (s_aload_n dX12_takeSkin_15 rfl (s_getf (ci := 12) (j := 20) (C := RX12) (T := TX12) (N := 49) dX12_takeSkin_16 rfl (by decide) (by decide) qf_X12_46 (s_iload_n dX12_takeSkin_19 rfl (s_aload_n dX12_takeSkin_20 rfl (s_getf (ci := 12) (j := 17) (C := RX12) (T := TX12) (N := 49) dX12_takeSkin_21 rfl (by decide) (by decide) qf_X12_40 (s_iload_n dX12_takeSkin_24 rfl (s_iaload dX12_takeSkin_25 (s_iastore dX12_takeSkin_26 (s_iinc dX12_takeSkin_27 (by decide : 1 < 2) (s_goto (tgt := 10) dX12_takeSkin_30 (by decide) (sk_id)))))))))))))
set_option maxRecDepth 20000 in
def kX12_takeSkin_52 (g : sk_G) (d ck sk : Nat) (Q : sk_P) : sk_K := o_iload 1 (o_i (8) (o_icge (o_i (0) (o_istore 1 (sk_B (g, d, ck, sk, xX12_takeSkin, Q) 78))) (o_aload 0 (o_getf 12 21 (o_iload 1 (o_aload 0 (o_getf 12 18 (o_iload 1 (o_iaload (o_iastore (o_iinc 1 (1) (sk_B (g, d, ck, sk, xX12_takeSkin, Q) 52))))))))))))
set_option maxRecDepth 20000 in
theorem tX12_takeSkin_52 {g : sk_G} {d ck sk : Nat} {Q : sk_P} : sk_S (g, d, ck, sk, xX12_takeSkin, Q) 52 (kX12_takeSkin_52 g d ck sk Q) := s_iload_n dX12_takeSkin_52 rfl (s_bipush dX12_takeSkin_53 rfl (s_icge (tgt := 76) dX12_takeSkin_55 (by decide) (s_iconst dX12_takeSkin_76 (s_istore_n dX12_takeSkin_77 rfl (by decide : 1 < 2) (sk_id))) (s_aload_n dX12_takeSkin_58 rfl (s_getf (ci := 12) (j := 21) (C := RX12) (T := TX12) (N := 49) dX12_takeSkin_59 rfl (by decide) (by decide) qf_X12_49 (s_iload_n dX12_takeSkin_62 rfl (s_aload_n dX12_takeSkin_63 rfl (s_getf (ci := 12) (j := 18) (C := RX12) (T := TX12) (N := 49) dX12_takeSkin_64 rfl (by decide) (by decide) qf_X12_43 (s_iload_n dX12_takeSkin_67 rfl (s_iaload dX12_takeSkin_68 (s_iastore dX12_takeSkin_69 (s_iinc dX12_takeSkin_70 (by decide : 1 < 2) (s_goto (tgt := 52) dX12_takeSkin_73 (by decide) (sk_id)))))))))))))
set_option maxRecDepth 20000 in
def kX12_takeSkin_78 (g : sk_G) (d ck sk : Nat) (Q : sk_P) : sk_K := o_iload 1 (o_i (943) (o_icge (o_aload 0 (o_getf 12 28 (o_i (760) (o_aload 0 (o_getf 12 20 (o_i (3) (o_iaload (o_iastore (o_aload 0 (o_i (0) (o_puti 12 45 (o_aload 0 (o_i (0) (o_puti 12 33 (o_aload 0 (o_i (0) (o_putz 12 48 (o_aload 0 (o_getf 12 23 (o_iret (g, d, ck, sk, xX12_takeSkin, Q))))))))))))))))))))) (o_aload 0 (o_getf 12 28 (o_iload 1 (o_i (0) (o_iastore (o_iinc 1 (1) (sk_B (g, d, ck, sk, xX12_takeSkin, Q) 78)))))))))
set_option maxRecDepth 20000 in
theorem tX12_takeSkin_78 {g : sk_G} {d ck sk : Nat} {Q : sk_P} : sk_S (g, d, ck, sk, xX12_takeSkin, Q) 78 (kX12_takeSkin_78 g d ck sk Q) := s_iload_n dX12_takeSkin_78 rfl (s_sipush dX12_takeSkin_79 rfl (s_icge (tgt := 98) dX12_takeSkin_82 (by decide) (s_aload_n dX12_takeSkin_98 rfl (s_getf (ci := 12) (j := 28) (C := RX12) (T := TX12) (N := 49) dX12_takeSkin_99 rfl (by decide) (by decide) qf_X12_61 (s_sipush dX12_takeSkin_102 rfl (s_aload_n dX12_takeSkin_105 rfl (s_getf (ci := 12) (j := 20) (C := RX12) (T := TX12) (N := 49) dX12_takeSkin_106 rfl (by decide) (by decide) qf_X12_46 (s_iconst dX12_takeSkin_109 (s_iaload dX12_takeSkin_110 (s_iastore dX12_takeSkin_111 (s_aload_n dX12_takeSkin_112 rfl (s_iconst dX12_takeSkin_113 (s_puti (ci := 12) (j := 45) (C := RX12) (T := TX12) (N := 49) dX12_takeSkin_114 rfl (by decide) (by decide) rfl (tyX12_ok 45 (by decide)) qf_X12_276 (s_aload_n dX12_takeSkin_117 rfl (s_iconst dX12_takeSkin_118 (s_puti (ci := 12) (j := 33) (C := RX12) (T := TX12) (N := 49) dX12_takeSkin_119 rfl (by decide) (by decide) rfl (tyX12_ok 33 (by decide)) qf_X12_279 (s_aload_n dX12_takeSkin_122 rfl (s_iconst dX12_takeSkin_123 (s_putz (ci := 12) (j := 48) (C := RX12) (T := TX12) (N := 49) dX12_takeSkin_124 rfl (by decide) (by decide) rfl (tyX12_ok 48 (by decide)) qf_X12_282 (s_aload_n dX12_takeSkin_127 rfl (s_getf (ci := 12) (j := 23) (C := RX12) (T := TX12) (N := 49) dX12_takeSkin_128 rfl (by decide) (by decide) qf_X12_273 (s_iret dX12_takeSkin_131 rfl)))))))))))))))))))) (s_aload_n dX12_takeSkin_85 rfl (s_getf (ci := 12) (j := 28) (C := RX12) (T := TX12) (N := 49) dX12_takeSkin_86 rfl (by decide) (by decide) qf_X12_61 (s_iload_n dX12_takeSkin_89 rfl (s_iconst dX12_takeSkin_90 (s_iastore dX12_takeSkin_91 (s_iinc dX12_takeSkin_92 (by decide : 1 < 2) (s_goto (tgt := 78) dX12_takeSkin_95 (by decide) (sk_id))))))))))
theorem dX12_rule_0 : decode cX12_rule 0 = .ok (.aload_n 0, 1) := by decide +kernel
theorem dX12_rule_1 : decode cX12_rule 1 = .ok (.getfield 273, 3) := by decide +kernel
theorem dX12_rule_4 : decode cX12_rule 4 = .ok (.ifCond .eq 12, 3) := by decide +kernel
theorem dX12_rule_7 : decode cX12_rule 7 = .ok (.iload_n 1, 1) := by decide +kernel
theorem dX12_rule_8 : decode cX12_rule 8 = .ok (.iconst 0, 1) := by decide +kernel
theorem dX12_rule_9 : decode cX12_rule 9 = .ok (.iconst 3, 1) := by decide +kernel
theorem dX12_rule_10 : decode cX12_rule 10 = .ok (.invokestatic 224, 3) := by decide +kernel
theorem dX12_rule_13 : decode cX12_rule 13 = .ok (.ifCond .ne 7, 3) := by decide +kernel
theorem dX12_rule_16 : decode cX12_rule 16 = .ok (.iconst (-1), 1) := by decide +kernel
theorem dX12_rule_17 : decode cX12_rule 17 = .ok (.goto 25, 3) := by decide +kernel
theorem dX12_rule_20 : decode cX12_rule 20 = .ok (.iload_n 1, 1) := by decide +kernel
theorem dX12_rule_21 : decode cX12_rule 21 = .ok (.iconst 3, 1) := by decide +kernel
theorem dX12_rule_22 : decode cX12_rule 22 = .ok (.if_icmp .ne 14, 3) := by decide +kernel
theorem dX12_rule_25 : decode cX12_rule 25 = .ok (.aload_n 0, 1) := by decide +kernel
theorem dX12_rule_26 : decode cX12_rule 26 = .ok (.getfield 61, 3) := by decide +kernel
theorem dX12_rule_29 : decode cX12_rule 29 = .ok (.sipush 760, 3) := by decide +kernel
theorem dX12_rule_32 : decode cX12_rule 32 = .ok (.iaload, 1) := by decide +kernel
theorem dX12_rule_33 : decode cX12_rule 33 = .ok (.goto 9, 3) := by decide +kernel
theorem dX12_rule_36 : decode cX12_rule 36 = .ok (.aload_n 0, 1) := by decide +kernel
theorem dX12_rule_37 : decode cX12_rule 37 = .ok (.getfield 46, 3) := by decide +kernel
theorem dX12_rule_40 : decode cX12_rule 40 = .ok (.iload_n 1, 1) := by decide +kernel
theorem dX12_rule_41 : decode cX12_rule 41 = .ok (.iaload, 1) := by decide +kernel
theorem dX12_rule_42 : decode cX12_rule 42 = .ok (.ireturn, 1) := by decide +kernel
set_option maxRecDepth 20000 in
def kX12_rule_0 (g : sk_G) (d ck sk : Nat) (Q : sk_P) : sk_K := o_aload 0 (o_getf 12 23 (o_ifeq (o_i (-1) (o_iret (g, d, ck, sk, xX12_rule, Q))) (o_iload 1 (o_i (0) (o_i (3) (o_stcT (g, d, ck, sk, xX12_rule, Q) 3 3 (fun Q => kX12_in_0 g (d - 1) 0 0 Q) (o_ifne (o_iload 1 (o_i (3) (o_icne (o_aload 0 (o_getf 12 20 (o_iload 1 (o_iaload (o_iret (g, d, ck, sk, xX12_rule, Q)))))) (o_aload 0 (o_getf 12 28 (o_i (760) (o_iaload (o_iret (g, d, ck, sk, xX12_rule, Q))))))))) (o_i (-1) (o_iret (g, d, ck, sk, xX12_rule, Q))))))))))
set_option maxRecDepth 20000 in
theorem tX12_rule_0 {g : sk_G} {d ck sk : Nat} {Q : sk_P} : sk_S (g, d, ck, sk, xX12_rule, Q) 0 (kX12_rule_0 g d ck sk Q) := s_aload_n dX12_rule_0 rfl (s_getf (ci := 12) (j := 23) (C := RX12) (T := TX12) (N := 49) dX12_rule_1 rfl (by decide) (by decide) qf_X12_273 (s_ifeq (tgt := 16) dX12_rule_4 (by decide) (s_iconst dX12_rule_16 (s_goto (tgt := 42) dX12_rule_17 (by decide) (s_iret dX12_rule_42 rfl))) (s_iload_n dX12_rule_7 rfl (s_iconst dX12_rule_8 (s_iconst dX12_rule_9 (s_stcT (X := xX12_in) (K := (fun Q => kX12_in_0 g (d - 1) 0 0 Q)) (fun _ => tX12_in_0) rfl dX12_rule_10 m_X12_in qm_X12_224 qs_X12_in (s_ifne (tgt := 20) dX12_rule_13 (by decide) (s_iload_n dX12_rule_20 rfl (s_iconst dX12_rule_21 (s_icne (tgt := 36) dX12_rule_22 (by decide) (s_aload_n dX12_rule_36 rfl (s_getf (ci := 12) (j := 20) (C := RX12) (T := TX12) (N := 49) dX12_rule_37 rfl (by decide) (by decide) qf_X12_46 (s_iload_n dX12_rule_40 rfl (s_iaload dX12_rule_41 (s_iret dX12_rule_42 rfl))))) (s_aload_n dX12_rule_25 rfl (s_getf (ci := 12) (j := 28) (C := RX12) (T := TX12) (N := 49) dX12_rule_26 rfl (by decide) (by decide) qf_X12_61 (s_sipush dX12_rule_29 rfl (s_iaload dX12_rule_32 (s_goto (tgt := 42) dX12_rule_33 (by decide) (s_iret dX12_rule_42 rfl))))))))) (s_iconst dX12_rule_16 (s_goto (tgt := 42) dX12_rule_17 (by decide) (s_iret dX12_rule_42 rfl))))))))))
theorem dX12_hand_0 : decode cX12_hand 0 = .ok (.aload_n 0, 1) := by decide +kernel
theorem dX12_hand_1 : decode cX12_hand 1 = .ok (.aload_n 0, 1) := by decide +kernel
theorem dX12_hand_2 : decode cX12_hand 2 = .ok (.iload_n 1, 1) := by decide +kernel
theorem dX12_hand_3 : decode cX12_hand 3 = .ok (.invokevirtual 352, 3) := by decide +kernel
theorem dX12_hand_6 : decode cX12_hand 6 = .ok (.ifCond .eq 16, 3) := by decide +kernel
theorem dX12_hand_9 : decode cX12_hand 9 = .ok (.iload_n 2, 1) := by decide +kernel
theorem dX12_hand_10 : decode cX12_hand 10 = .ok (.iconst 0, 1) := by decide +kernel
theorem dX12_hand_11 : decode cX12_hand 11 = .ok (.iconst 3, 1) := by decide +kernel
theorem dX12_hand_12 : decode cX12_hand 12 = .ok (.invokestatic 224, 3) := by decide +kernel
theorem dX12_hand_15 : decode cX12_hand 15 = .ok (.ifCond .eq 7, 3) := by decide +kernel
theorem dX12_hand_18 : decode cX12_hand 18 = .ok (.iconst 0, 1) := by decide +kernel
theorem dX12_hand_19 : decode cX12_hand 19 = .ok (.goto 4, 3) := by decide +kernel
theorem dX12_hand_22 : decode cX12_hand 22 = .ok (.iconst 1, 1) := by decide +kernel
theorem dX12_hand_23 : decode cX12_hand 23 = .ok (.putfield 109, 3) := by decide +kernel
theorem dX12_hand_26 : decode cX12_hand 26 = .ok (.aload_n 0, 1) := by decide +kernel
theorem dX12_hand_27 : decode cX12_hand 27 = .ok (.getfield 109, 3) := by decide +kernel
theorem dX12_hand_30 : decode cX12_hand 30 = .ok (.iconst 1, 1) := by decide +kernel
theorem dX12_hand_31 : decode cX12_hand 31 = .ok (.if_icmp .ne 5, 3) := by decide +kernel
theorem dX12_hand_34 : decode cX12_hand 34 = .ok (.iconst 0, 1) := by decide +kernel
theorem dX12_hand_35 : decode cX12_hand 35 = .ok (.ireturn, 1) := by decide +kernel
theorem dX12_hand_36 : decode cX12_hand 36 = .ok (.iload_n 2, 1) := by decide +kernel
theorem dX12_hand_37 : decode cX12_hand 37 = .ok (.iconst 2, 1) := by decide +kernel
theorem dX12_hand_38 : decode cX12_hand 38 = .ok (.if_icmp .ge 16, 3) := by decide +kernel
theorem dX12_hand_41 : decode cX12_hand 41 = .ok (.aload_n 0, 1) := by decide +kernel
theorem dX12_hand_42 : decode cX12_hand 42 = .ok (.getfield 49, 3) := by decide +kernel
theorem dX12_hand_45 : decode cX12_hand 45 = .ok (.iconst 2, 1) := by decide +kernel
theorem dX12_hand_46 : decode cX12_hand 46 = .ok (.iload_n 1, 1) := by decide +kernel
theorem dX12_hand_47 : decode cX12_hand 47 = .ok (.imul, 1) := by decide +kernel
theorem dX12_hand_48 : decode cX12_hand 48 = .ok (.iload_n 2, 1) := by decide +kernel
theorem dX12_hand_49 : decode cX12_hand 49 = .ok (.iadd, 1) := by decide +kernel
theorem dX12_hand_50 : decode cX12_hand 50 = .ok (.iaload, 1) := by decide +kernel
theorem dX12_hand_51 : decode cX12_hand 51 = .ok (.goto 11, 3) := by decide +kernel
theorem dX12_hand_54 : decode cX12_hand 54 = .ok (.aload_n 0, 1) := by decide +kernel
theorem dX12_hand_55 : decode cX12_hand 55 = .ok (.iload_n 1, 1) := by decide +kernel
theorem dX12_hand_56 : decode cX12_hand 56 = .ok (.iload_n 2, 1) := by decide +kernel
theorem dX12_hand_57 : decode cX12_hand 57 = .ok (.iconst 2, 1) := by decide +kernel
theorem dX12_hand_58 : decode cX12_hand 58 = .ok (.isub, 1) := by decide +kernel
theorem dX12_hand_59 : decode cX12_hand 59 = .ok (.invokevirtual 298, 3) := by decide +kernel
theorem dX12_hand_62 : decode cX12_hand 62 = .ok (.ireturn, 1) := by decide +kernel
set_option maxRecDepth 20000 in
def kX12_hand_0 (g : sk_G) (d ck sk : Nat) (Q : sk_P) : sk_K := o_aload 0 (o_aload 0 (o_iload 1 (o_invT (g, d, ck, sk, xX12_hand, Q) 2 1 12 (fun Q => kX12_isHand_0 g (d - 1) 0 0 Q) (o_ifeq (o_i (1) (sk_B (g, d, ck, sk, xX12_hand, Q) 23)) (o_iload 2 (o_i (0) (o_i (3) (o_stcT (g, d, ck, sk, xX12_hand, Q) 3 3 (fun Q => kX12_in_0 g (d - 1) 0 0 Q) (o_ifeq (o_i (1) (sk_B (g, d, ck, sk, xX12_hand, Q) 23)) (o_i (0) (sk_B (g, d, ck, sk, xX12_hand, Q) 23)))))))))))
set_option maxRecDepth 20000 in
theorem tX12_hand_0 {g : sk_G} {d ck sk : Nat} {Q : sk_P} : sk_S (g, d, ck, sk, xX12_hand, Q) 0 (kX12_hand_0 g d ck sk Q) := s_aload_n dX12_hand_0 rfl (s_aload_n dX12_hand_1 rfl (s_iload_n dX12_hand_2 rfl (s_invT (X := xX12_isHand) (ci := 12) (T := TX12) (N := 49) (K := (fun Q => kX12_isHand_0 g (d - 1) 0 0 Q)) (fun _ => tX12_isHand_0) rfl dX12_hand_3 m_X12_isHand rfl (by decide) qm_X12_352 qi_X12_isHand qe_X12_isHand (s_ifeq (tgt := 22) dX12_hand_6 (by decide) (s_iconst dX12_hand_22 (sk_id)) (s_iload_n dX12_hand_9 rfl (s_iconst dX12_hand_10 (s_iconst dX12_hand_11 (s_stcT (X := xX12_in) (K := (fun Q => kX12_in_0 g (d - 1) 0 0 Q)) (fun _ => tX12_in_0) rfl dX12_hand_12 m_X12_in qm_X12_224 qs_X12_in (s_ifeq (tgt := 22) dX12_hand_15 (by decide) (s_iconst dX12_hand_22 (sk_id)) (s_iconst dX12_hand_18 (s_goto (tgt := 23) dX12_hand_19 (by decide) (sk_id))))))))))))
set_option maxRecDepth 20000 in
def kX12_hand_23 (g : sk_G) (d ck sk : Nat) (Q : sk_P) : sk_K := o_puti 12 0 (o_aload 0 (o_getf 12 0 (o_i (1) (o_icne (o_iload 2 (o_i (2) (o_icge (o_aload 0 (o_iload 1 (o_iload 2 (o_i (2) (o_isub (o_invB (g, d, ck, sk, xX12_hand, Q) xX12_ofHand 2 12 0 0 (o_iret (g, d, ck, sk, xX12_hand, Q)))))))) (o_aload 0 (o_getf 12 21 (o_i (2) (o_iload 1 (o_imul (o_iload 2 (o_iadd (o_iaload (o_iret (g, d, ck, sk, xX12_hand, Q))))))))))))) (o_i (0) (o_iret (g, d, ck, sk, xX12_hand, Q)))))))
set_option maxRecDepth 20000 in
theorem tX12_hand_23 {g : sk_G} {d ck sk : Nat} {Q : sk_P} : sk_S (g, d, ck, sk, xX12_hand, Q) 23 (kX12_hand_23 g d ck sk Q) := s_puti (ci := 12) (j := 0) (C := RX12) (T := TX12) (N := 49) dX12_hand_23 rfl (by decide) (by decide) rfl (tyX12_ok 0 (by decide)) qf_X12_109 (s_aload_n dX12_hand_26 rfl (s_getf (ci := 12) (j := 0) (C := RX12) (T := TX12) (N := 49) dX12_hand_27 rfl (by decide) (by decide) qf_X12_109 (s_iconst dX12_hand_30 (s_icne (tgt := 36) dX12_hand_31 (by decide) (s_iload_n dX12_hand_36 rfl (s_iconst dX12_hand_37 (s_icge (tgt := 54) dX12_hand_38 (by decide) (s_aload_n dX12_hand_54 rfl (s_iload_n dX12_hand_55 rfl (s_iload_n dX12_hand_56 rfl (s_iconst dX12_hand_57 (s_isub dX12_hand_58 (s_invB (w' := (g, d, ck, sk, xX12_hand, Q)) (ci := 12) (ck := 0) (sk := 0) (T := TX12) (N := 49) dX12_hand_59 m_X12_ofHand rfl (by decide) qm_X12_298 qi_X12_ofHand qe_X12_ofHand rfl (s_iret dX12_hand_62 rfl))))))) (s_aload_n dX12_hand_41 rfl (s_getf (ci := 12) (j := 21) (C := RX12) (T := TX12) (N := 49) dX12_hand_42 rfl (by decide) (by decide) qf_X12_49 (s_iconst dX12_hand_45 (s_iload_n dX12_hand_46 rfl (s_imul dX12_hand_47 (s_iload_n dX12_hand_48 rfl (s_iadd dX12_hand_49 (s_iaload dX12_hand_50 (s_goto (tgt := 62) dX12_hand_51 (by decide) (s_iret dX12_hand_62 rfl))))))))))))) (s_iconst dX12_hand_34 (s_iret dX12_hand_35 rfl))))))
theorem dX12_ofHand_0 : decode cX12_ofHand 0 = .ok (.iconst 0, 1) := by decide +kernel
theorem dX12_ofHand_1 : decode cX12_ofHand 1 = .ok (.istore_n 3, 1) := by decide +kernel
theorem dX12_ofHand_2 : decode cX12_ofHand 2 = .ok (.iconst 0, 1) := by decide +kernel
theorem dX12_ofHand_3 : decode cX12_ofHand 3 = .ok (.istore 4, 2) := by decide +kernel
theorem dX12_ofHand_5 : decode cX12_ofHand 5 = .ok (.iload 4, 2) := by decide +kernel
theorem dX12_ofHand_7 : decode cX12_ofHand 7 = .ok (.aload_n 0, 1) := by decide +kernel
theorem dX12_ofHand_8 : decode cX12_ofHand 8 = .ok (.getfield 273, 3) := by decide +kernel
theorem dX12_ofHand_11 : decode cX12_ofHand 11 = .ok (.if_icmp .ge 69, 3) := by decide +kernel
theorem dX12_ofHand_14 : decode cX12_ofHand 14 = .ok (.iconst 0, 1) := by decide +kernel
theorem dX12_ofHand_15 : decode cX12_ofHand 15 = .ok (.istore 5, 2) := by decide +kernel
theorem dX12_ofHand_17 : decode cX12_ofHand 17 = .ok (.iload 5, 2) := by decide +kernel
theorem dX12_ofHand_19 : decode cX12_ofHand 19 = .ok (.aload_n 0, 1) := by decide +kernel
theorem dX12_ofHand_20 : decode cX12_ofHand 20 = .ok (.getfield 61, 3) := by decide +kernel
theorem dX12_ofHand_23 : decode cX12_ofHand 23 = .ok (.iconst 0, 1) := by decide +kernel
theorem dX12_ofHand_24 : decode cX12_ofHand 24 = .ok (.iload 4, 2) := by decide +kernel
theorem dX12_ofHand_26 : decode cX12_ofHand 26 = .ok (.iadd, 1) := by decide +kernel
theorem dX12_ofHand_27 : decode cX12_ofHand 27 = .ok (.iaload, 1) := by decide +kernel
theorem dX12_ofHand_28 : decode cX12_ofHand 28 = .ok (.if_icmp .ge 46, 3) := by decide +kernel
theorem dX12_ofHand_31 : decode cX12_ofHand 31 = .ok (.iload_n 3, 1) := by decide +kernel
theorem dX12_ofHand_32 : decode cX12_ofHand 32 = .ok (.aload_n 0, 1) := by decide +kernel
theorem dX12_ofHand_33 : decode cX12_ofHand 33 = .ok (.iload 4, 2) := by decide +kernel
theorem dX12_ofHand_35 : decode cX12_ofHand 35 = .ok (.iload 5, 2) := by decide +kernel
theorem dX12_ofHand_37 : decode cX12_ofHand 37 = .ok (.iconst 1, 1) := by decide +kernel
theorem dX12_ofHand_38 : decode cX12_ofHand 38 = .ok (.invokevirtual 295, 3) := by decide +kernel
theorem dX12_ofHand_41 : decode cX12_ofHand 41 = .ok (.iload_n 1, 1) := by decide +kernel
theorem dX12_ofHand_42 : decode cX12_ofHand 42 = .ok (.if_icmp .eq 7, 3) := by decide +kernel
theorem dX12_ofHand_45 : decode cX12_ofHand 45 = .ok (.iconst 0, 1) := by decide +kernel
theorem dX12_ofHand_46 : decode cX12_ofHand 46 = .ok (.goto 20, 3) := by decide +kernel
theorem dX12_ofHand_49 : decode cX12_ofHand 49 = .ok (.iload_n 2, 1) := by decide +kernel
theorem dX12_ofHand_50 : decode cX12_ofHand 50 = .ok (.ifCond .ne 7, 3) := by decide +kernel
theorem dX12_ofHand_53 : decode cX12_ofHand 53 = .ok (.iconst 1, 1) := by decide +kernel
theorem dX12_ofHand_54 : decode cX12_ofHand 54 = .ok (.goto 12, 3) := by decide +kernel
theorem dX12_ofHand_57 : decode cX12_ofHand 57 = .ok (.aload_n 0, 1) := by decide +kernel
theorem dX12_ofHand_58 : decode cX12_ofHand 58 = .ok (.iload 4, 2) := by decide +kernel
theorem dX12_ofHand_60 : decode cX12_ofHand 60 = .ok (.iload 5, 2) := by decide +kernel
theorem dX12_ofHand_62 : decode cX12_ofHand 62 = .ok (.iconst 2, 1) := by decide +kernel
theorem dX12_ofHand_63 : decode cX12_ofHand 63 = .ok (.invokevirtual 295, 3) := by decide +kernel
theorem dX12_ofHand_66 : decode cX12_ofHand 66 = .ok (.iadd, 1) := by decide +kernel
theorem dX12_ofHand_67 : decode cX12_ofHand 67 = .ok (.istore_n 3, 1) := by decide +kernel
theorem dX12_ofHand_68 : decode cX12_ofHand 68 = .ok (.iinc 5 1, 3) := by decide +kernel
theorem dX12_ofHand_71 : decode cX12_ofHand 71 = .ok (.goto (-54), 3) := by decide +kernel
theorem dX12_ofHand_74 : decode cX12_ofHand 74 = .ok (.iinc 4 1, 3) := by decide +kernel
theorem dX12_ofHand_77 : decode cX12_ofHand 77 = .ok (.goto (-72), 3) := by decide +kernel
theorem dX12_ofHand_80 : decode cX12_ofHand 80 = .ok (.iload_n 3, 1) := by decide +kernel
theorem dX12_ofHand_81 : decode cX12_ofHand 81 = .ok (.ireturn, 1) := by decide +kernel
def kX12_ofHand_0 (g : sk_G) (d ck sk : Nat) (Q : sk_P) : sk_K := o_i (0) (o_istore 3 (o_i (0) (o_istore 4 (sk_B (g, d, ck, sk, xX12_ofHand, Q) 5))))
theorem tX12_ofHand_0 {g : sk_G} {d ck sk : Nat} {Q : sk_P} : sk_S (g, d, ck, sk, xX12_ofHand, Q) 0 (kX12_ofHand_0 g d ck sk Q) := s_iconst dX12_ofHand_0 (s_istore_n dX12_ofHand_1 rfl (by decide : 3 < 6) (s_iconst dX12_ofHand_2 (s_istore dX12_ofHand_3 (by decide : 4 < 6) (sk_id))))
def kX12_ofHand_5 (g : sk_G) (d ck sk : Nat) (Q : sk_P) : sk_K := o_iload 4 (o_aload 0 (o_getf 12 23 (o_icge (o_iload 3 (o_iret (g, d, ck, sk, xX12_ofHand, Q))) (o_i (0) (o_istore 5 (sk_B (g, d, ck, sk, xX12_ofHand, Q) 17))))))
theorem tX12_ofHand_5 {g : sk_G} {d ck sk : Nat} {Q : sk_P} : sk_S (g, d, ck, sk, xX12_ofHand, Q) 5 (kX12_ofHand_5 g d ck sk Q) := s_iload dX12_ofHand_5 (s_aload_n dX12_ofHand_7 rfl (s_getf (ci := 12) (j := 23) (C := RX12) (T := TX12) (N := 49) dX12_ofHand_8 rfl (by decide) (by decide) qf_X12_273 (s_icge (tgt := 80) dX12_ofHand_11 (by decide) (s_iload_n dX12_ofHand_80 rfl (s_iret dX12_ofHand_81 rfl)) (s_iconst dX12_ofHand_14 (s_istore dX12_ofHand_15 (by decide : 5 < 6) (sk_id))))))
set_option maxRecDepth 20000 in
def kX12_ofHand_17 (g : sk_G) (d ck sk : Nat) (Q : sk_P) : sk_K := o_iload 5 (o_aload 0 (o_getf 12 28 (o_i (0) (o_iload 4 (o_iadd (o_iaload (o_icge (o_iinc 4 (1) (sk_B (g, d, ck, sk, xX12_ofHand, Q) 5)) (o_iload 3 (o_aload 0 (o_iload 4 (o_iload 5 (o_i (1) (o_invT (g, d, ck, sk, xX12_ofHand, Q) 4 3 12 (fun Q => kX12_of_0 g (d - 1) 0 0 Q) (o_iload 1 (o_iceq (o_iload 2 (o_ifne (o_aload 0 (o_iload 4 (o_iload 5 (o_i (2) (o_invT (g, d, ck, sk, xX12_ofHand, Q) 4 3 12 (fun Q => kX12_of_0 g (d - 1) 0 0 Q) (o_iadd (o_istore 3 (o_iinc 5 (1) (sk_B (g, d, ck, sk, xX12_ofHand, Q) 17))))))))) (o_i (1) (o_iadd (o_istore 3 (o_iinc 5 (1) (sk_B (g, d, ck, sk, xX12_ofHand, Q) 17))))))) (o_i (0) (o_iadd (o_istore 3 (o_iinc 5 (1) (sk_B (g, d, ck, sk, xX12_ofHand, Q) 17))))))))))))))))))))
set_option maxRecDepth 20000 in
theorem tX12_ofHand_17 {g : sk_G} {d ck sk : Nat} {Q : sk_P} : sk_S (g, d, ck, sk, xX12_ofHand, Q) 17 (kX12_ofHand_17 g d ck sk Q) := s_iload dX12_ofHand_17 (s_aload_n dX12_ofHand_19 rfl (s_getf (ci := 12) (j := 28) (C := RX12) (T := TX12) (N := 49) dX12_ofHand_20 rfl (by decide) (by decide) qf_X12_61 (s_iconst dX12_ofHand_23 (s_iload dX12_ofHand_24 (s_iadd dX12_ofHand_26 (s_iaload dX12_ofHand_27 (s_icge (tgt := 74) dX12_ofHand_28 (by decide) (s_iinc dX12_ofHand_74 (by decide : 4 < 6) (s_goto (tgt := 5) dX12_ofHand_77 (by decide) (sk_id))) (s_iload_n dX12_ofHand_31 rfl (s_aload_n dX12_ofHand_32 rfl (s_iload dX12_ofHand_33 (s_iload dX12_ofHand_35 (s_iconst dX12_ofHand_37 (s_invT (X := xX12_of) (ci := 12) (T := TX12) (N := 49) (K := (fun Q => kX12_of_0 g (d - 1) 0 0 Q)) (fun _ => tX12_of_0) rfl dX12_ofHand_38 m_X12_of rfl (by decide) qm_X12_295 qi_X12_of qe_X12_of (s_iload_n dX12_ofHand_41 rfl (s_iceq (tgt := 49) dX12_ofHand_42 (by decide) (s_iload_n dX12_ofHand_49 rfl (s_ifne (tgt := 57) dX12_ofHand_50 (by decide) (s_aload_n dX12_ofHand_57 rfl (s_iload dX12_ofHand_58 (s_iload dX12_ofHand_60 (s_iconst dX12_ofHand_62 (s_invT (X := xX12_of) (ci := 12) (T := TX12) (N := 49) (K := (fun Q => kX12_of_0 g (d - 1) 0 0 Q)) (fun _ => tX12_of_0) rfl dX12_ofHand_63 m_X12_of rfl (by decide) qm_X12_295 qi_X12_of qe_X12_of (s_iadd dX12_ofHand_66 (s_istore_n dX12_ofHand_67 rfl (by decide : 3 < 6) (s_iinc dX12_ofHand_68 (by decide : 5 < 6) (s_goto (tgt := 17) dX12_ofHand_71 (by decide) (sk_id)))))))))) (s_iconst dX12_ofHand_53 (s_goto (tgt := 66) dX12_ofHand_54 (by decide) (s_iadd dX12_ofHand_66 (s_istore_n dX12_ofHand_67 rfl (by decide : 3 < 6) (s_iinc dX12_ofHand_68 (by decide : 5 < 6) (s_goto (tgt := 17) dX12_ofHand_71 (by decide) (sk_id))))))))) (s_iconst dX12_ofHand_45 (s_goto (tgt := 66) dX12_ofHand_46 (by decide) (s_iadd dX12_ofHand_66 (s_istore_n dX12_ofHand_67 rfl (by decide : 3 < 6) (s_iinc dX12_ofHand_68 (by decide : 5 < 6) (s_goto (tgt := 17) dX12_ofHand_71 (by decide) (sk_id))))))))))))))))))))))
theorem dX12_sign_0 : decode cX12_sign 0 = .ok (.iload_n 1, 1) := by decide +kernel
theorem dX12_sign_1 : decode cX12_sign 1 = .ok (.iconst 0, 1) := by decide +kernel
theorem dX12_sign_2 : decode cX12_sign 2 = .ok (.aload_n 0, 1) := by decide +kernel
theorem dX12_sign_3 : decode cX12_sign 3 = .ok (.getfield 292, 3) := by decide +kernel
theorem dX12_sign_6 : decode cX12_sign 6 = .ok (.iconst 1, 1) := by decide +kernel
theorem dX12_sign_7 : decode cX12_sign 7 = .ok (.isub, 1) := by decide +kernel
theorem dX12_sign_8 : decode cX12_sign 8 = .ok (.invokestatic 224, 3) := by decide +kernel
theorem dX12_sign_11 : decode cX12_sign 11 = .ok (.ifCond .eq 12, 3) := by decide +kernel
theorem dX12_sign_14 : decode cX12_sign 14 = .ok (.iload_n 2, 1) := by decide +kernel
theorem dX12_sign_15 : decode cX12_sign 15 = .ok (.iconst 0, 1) := by decide +kernel
theorem dX12_sign_16 : decode cX12_sign 16 = .ok (.iconst 3, 1) := by decide +kernel
theorem dX12_sign_17 : decode cX12_sign 17 = .ok (.invokestatic 224, 3) := by decide +kernel
theorem dX12_sign_20 : decode cX12_sign 20 = .ok (.ifCond .ne 5, 3) := by decide +kernel
theorem dX12_sign_23 : decode cX12_sign 23 = .ok (.iconst (-1), 1) := by decide +kernel
theorem dX12_sign_24 : decode cX12_sign 24 = .ok (.ireturn, 1) := by decide +kernel
theorem dX12_sign_25 : decode cX12_sign 25 = .ok (.iconst 0, 1) := by decide +kernel
theorem dX12_sign_26 : decode cX12_sign 26 = .ok (.istore 4, 2) := by decide +kernel
theorem dX12_sign_28 : decode cX12_sign 28 = .ok (.iload 4, 2) := by decide +kernel
theorem dX12_sign_30 : decode cX12_sign 30 = .ok (.aload_n 0, 1) := by decide +kernel
theorem dX12_sign_31 : decode cX12_sign 31 = .ok (.getfield 55, 3) := by decide +kernel
theorem dX12_sign_34 : decode cX12_sign 34 = .ok (.iload_n 1, 1) := by decide +kernel
theorem dX12_sign_35 : decode cX12_sign 35 = .ok (.iaload, 1) := by decide +kernel
theorem dX12_sign_36 : decode cX12_sign 36 = .ok (.if_icmp .ge 54, 3) := by decide +kernel
theorem dX12_sign_39 : decode cX12_sign 39 = .ok (.iconst 3, 1) := by decide +kernel
theorem dX12_sign_40 : decode cX12_sign 40 = .ok (.bipush 16, 2) := by decide +kernel
theorem dX12_sign_42 : decode cX12_sign 42 = .ok (.iload_n 1, 1) := by decide +kernel
theorem dX12_sign_43 : decode cX12_sign 43 = .ok (.imul, 1) := by decide +kernel
theorem dX12_sign_44 : decode cX12_sign 44 = .ok (.iload 4, 2) := by decide +kernel
theorem dX12_sign_46 : decode cX12_sign 46 = .ok (.iadd, 1) := by decide +kernel
theorem dX12_sign_47 : decode cX12_sign 47 = .ok (.imul, 1) := by decide +kernel
theorem dX12_sign_48 : decode cX12_sign 48 = .ok (.istore 5, 2) := by decide +kernel
theorem dX12_sign_50 : decode cX12_sign 50 = .ok (.aload_n 0, 1) := by decide +kernel
theorem dX12_sign_51 : decode cX12_sign 51 = .ok (.getfield 52, 3) := by decide +kernel
theorem dX12_sign_54 : decode cX12_sign 54 = .ok (.iload 5, 2) := by decide +kernel
theorem dX12_sign_56 : decode cX12_sign 56 = .ok (.iconst 1, 1) := by decide +kernel
theorem dX12_sign_57 : decode cX12_sign 57 = .ok (.iadd, 1) := by decide +kernel
theorem dX12_sign_58 : decode cX12_sign 58 = .ok (.iaload, 1) := by decide +kernel
theorem dX12_sign_59 : decode cX12_sign 59 = .ok (.iload_n 2, 1) := by decide +kernel
theorem dX12_sign_60 : decode cX12_sign 60 = .ok (.if_icmp .ne 24, 3) := by decide +kernel
theorem dX12_sign_63 : decode cX12_sign 63 = .ok (.aload_n 0, 1) := by decide +kernel
theorem dX12_sign_64 : decode cX12_sign 64 = .ok (.getfield 52, 3) := by decide +kernel
theorem dX12_sign_67 : decode cX12_sign 67 = .ok (.iload 5, 2) := by decide +kernel
theorem dX12_sign_69 : decode cX12_sign 69 = .ok (.iconst 2, 1) := by decide +kernel
theorem dX12_sign_70 : decode cX12_sign 70 = .ok (.iadd, 1) := by decide +kernel
theorem dX12_sign_71 : decode cX12_sign 71 = .ok (.iaload, 1) := by decide +kernel
theorem dX12_sign_72 : decode cX12_sign 72 = .ok (.iload_n 3, 1) := by decide +kernel
theorem dX12_sign_73 : decode cX12_sign 73 = .ok (.if_icmp .ne 11, 3) := by decide +kernel
theorem dX12_sign_76 : decode cX12_sign 76 = .ok (.aload_n 0, 1) := by decide +kernel
theorem dX12_sign_77 : decode cX12_sign 77 = .ok (.getfield 52, 3) := by decide +kernel
theorem dX12_sign_80 : decode cX12_sign 80 = .ok (.iload 5, 2) := by decide +kernel
theorem dX12_sign_82 : decode cX12_sign 82 = .ok (.iaload, 1) := by decide +kernel
theorem dX12_sign_83 : decode cX12_sign 83 = .ok (.ireturn, 1) := by decide +kernel
theorem dX12_sign_84 : decode cX12_sign 84 = .ok (.iinc 4 1, 3) := by decide +kernel
theorem dX12_sign_87 : decode cX12_sign 87 = .ok (.goto (-59), 3) := by decide +kernel
theorem dX12_sign_90 : decode cX12_sign 90 = .ok (.iconst (-1), 1) := by decide +kernel
theorem dX12_sign_91 : decode cX12_sign 91 = .ok (.ireturn, 1) := by decide +kernel
set_option maxRecDepth 20000 in
def kX12_sign_0 (g : sk_G) (d ck sk : Nat) (Q : sk_P) : sk_K := o_iload 1 (o_i (0) (o_aload 0 (o_getf 12 27 (o_i (1) (o_isub (o_stcT (g, d, ck, sk, xX12_sign, Q) 3 3 (fun Q => kX12_in_0 g (d - 1) 0 0 Q) (o_ifeq (o_i (-1) (o_iret (g, d, ck, sk, xX12_sign, Q))) (o_iload 2 (o_i (0) (o_i (3) (o_stcT (g, d, ck, sk, xX12_sign, Q) 3 3 (fun Q => kX12_in_0 g (d - 1) 0 0 Q) (o_ifne (o_i (0) (o_istore 4 (sk_B (g, d, ck, sk, xX12_sign, Q) 28))) (o_i (-1) (o_iret (g, d, ck, sk, xX12_sign, Q)))))))))))))))
set_option maxRecDepth 20000 in
theorem tX12_sign_0 {g : sk_G} {d ck sk : Nat} {Q : sk_P} : sk_S (g, d, ck, sk, xX12_sign, Q) 0 (kX12_sign_0 g d ck sk Q) := s_iload_n dX12_sign_0 rfl (s_iconst dX12_sign_1 (s_aload_n dX12_sign_2 rfl (s_getf (ci := 12) (j := 27) (C := RX12) (T := TX12) (N := 49) dX12_sign_3 rfl (by decide) (by decide) qf_X12_292 (s_iconst dX12_sign_6 (s_isub dX12_sign_7 (s_stcT (X := xX12_in) (K := (fun Q => kX12_in_0 g (d - 1) 0 0 Q)) (fun _ => tX12_in_0) rfl dX12_sign_8 m_X12_in qm_X12_224 qs_X12_in (s_ifeq (tgt := 23) dX12_sign_11 (by decide) (s_iconst dX12_sign_23 (s_iret dX12_sign_24 rfl)) (s_iload_n dX12_sign_14 rfl (s_iconst dX12_sign_15 (s_iconst dX12_sign_16 (s_stcT (X := xX12_in) (K := (fun Q => kX12_in_0 g (d - 1) 0 0 Q)) (fun _ => tX12_in_0) rfl dX12_sign_17 m_X12_in qm_X12_224 qs_X12_in (s_ifne (tgt := 25) dX12_sign_20 (by decide) (s_iconst dX12_sign_25 (s_istore dX12_sign_26 (by decide : 4 < 6) (sk_id))) (s_iconst dX12_sign_23 (s_iret dX12_sign_24 rfl))))))))))))))
set_option maxRecDepth 20000 in
def kX12_sign_28 (g : sk_G) (d ck sk : Nat) (Q : sk_P) : sk_K := o_iload 4 (o_aload 0 (o_getf 12 25 (o_iload 1 (o_iaload (o_icge (o_i (-1) (o_iret (g, d, ck, sk, xX12_sign, Q))) (o_i (3) (o_i (16) (o_iload 1 (o_imul (o_iload 4 (o_iadd (o_imul (o_istore 5 (o_aload 0 (o_getf 12 24 (o_iload 5 (o_i (1) (o_iadd (o_iaload (o_iload 2 (o_icne (o_iinc 4 (1) (sk_B (g, d, ck, sk, xX12_sign, Q) 28)) (o_aload 0 (o_getf 12 24 (o_iload 5 (o_i (2) (o_iadd (o_iaload (o_iload 3 (o_icne (o_iinc 4 (1) (sk_B (g, d, ck, sk, xX12_sign, Q) 28)) (o_aload 0 (o_getf 12 24 (o_iload 5 (o_iaload (o_iret (g, d, ck, sk, xX12_sign, Q)))))))))))))))))))))))))))))))))))
set_option maxRecDepth 20000 in
theorem tX12_sign_28 {g : sk_G} {d ck sk : Nat} {Q : sk_P} : sk_S (g, d, ck, sk, xX12_sign, Q) 28 (kX12_sign_28 g d ck sk Q) := s_iload dX12_sign_28 (s_aload_n dX12_sign_30 rfl (s_getf (ci := 12) (j := 25) (C := RX12) (T := TX12) (N := 49) dX12_sign_31 rfl (by decide) (by decide) qf_X12_55 (s_iload_n dX12_sign_34 rfl (s_iaload dX12_sign_35 (s_icge (tgt := 90) dX12_sign_36 (by decide) (s_iconst dX12_sign_90 (s_iret dX12_sign_91 rfl)) (s_iconst dX12_sign_39 (s_bipush dX12_sign_40 rfl (s_iload_n dX12_sign_42 rfl (s_imul dX12_sign_43 (s_iload dX12_sign_44 (s_iadd dX12_sign_46 (s_imul dX12_sign_47 (s_istore dX12_sign_48 (by decide : 5 < 6) (s_aload_n dX12_sign_50 rfl (s_getf (ci := 12) (j := 24) (C := RX12) (T := TX12) (N := 49) dX12_sign_51 rfl (by decide) (by decide) qf_X12_52 (s_iload dX12_sign_54 (s_iconst dX12_sign_56 (s_iadd dX12_sign_57 (s_iaload dX12_sign_58 (s_iload_n dX12_sign_59 rfl (s_icne (tgt := 84) dX12_sign_60 (by decide) (s_iinc dX12_sign_84 (by decide : 4 < 6) (s_goto (tgt := 28) dX12_sign_87 (by decide) (sk_id))) (s_aload_n dX12_sign_63 rfl (s_getf (ci := 12) (j := 24) (C := RX12) (T := TX12) (N := 49) dX12_sign_64 rfl (by decide) (by decide) qf_X12_52 (s_iload dX12_sign_67 (s_iconst dX12_sign_69 (s_iadd dX12_sign_70 (s_iaload dX12_sign_71 (s_iload_n dX12_sign_72 rfl (s_icne (tgt := 84) dX12_sign_73 (by decide) (s_iinc dX12_sign_84 (by decide : 4 < 6) (s_goto (tgt := 28) dX12_sign_87 (by decide) (sk_id))) (s_aload_n dX12_sign_76 rfl (s_getf (ci := 12) (j := 24) (C := RX12) (T := TX12) (N := 49) dX12_sign_77 rfl (by decide) (by decide) qf_X12_52 (s_iload dX12_sign_80 (s_iaload dX12_sign_82 (s_iret dX12_sign_83 rfl))))))))))))))))))))))))))))))))))
theorem dX12_layer_0 : decode cX12_layer 0 = .ok (.aload_n 0, 1) := by decide +kernel
theorem dX12_layer_1 : decode cX12_layer 1 = .ok (.iload_n 1, 1) := by decide +kernel
theorem dX12_layer_2 : decode cX12_layer 2 = .ok (.invokevirtual 355, 3) := by decide +kernel
theorem dX12_layer_5 : decode cX12_layer 5 = .ok (.ifCond .eq 40, 3) := by decide +kernel
theorem dX12_layer_8 : decode cX12_layer 8 = .ok (.iload_n 2, 1) := by decide +kernel
theorem dX12_layer_9 : decode cX12_layer 9 = .ok (.iconst 0, 1) := by decide +kernel
theorem dX12_layer_10 : decode cX12_layer 10 = .ok (.aload_n 0, 1) := by decide +kernel
theorem dX12_layer_11 : decode cX12_layer 11 = .ok (.getfield 61, 3) := by decide +kernel
theorem dX12_layer_14 : decode cX12_layer 14 = .ok (.iconst 0, 1) := by decide +kernel
theorem dX12_layer_15 : decode cX12_layer 15 = .ok (.iload_n 1, 1) := by decide +kernel
theorem dX12_layer_16 : decode cX12_layer 16 = .ok (.iadd, 1) := by decide +kernel
theorem dX12_layer_17 : decode cX12_layer 17 = .ok (.iaload, 1) := by decide +kernel
theorem dX12_layer_18 : decode cX12_layer 18 = .ok (.iconst 1, 1) := by decide +kernel
theorem dX12_layer_19 : decode cX12_layer 19 = .ok (.isub, 1) := by decide +kernel
theorem dX12_layer_20 : decode cX12_layer 20 = .ok (.invokestatic 224, 3) := by decide +kernel
theorem dX12_layer_23 : decode cX12_layer 23 = .ok (.ifCond .eq 22, 3) := by decide +kernel
theorem dX12_layer_26 : decode cX12_layer 26 = .ok (.iload_n 3, 1) := by decide +kernel
theorem dX12_layer_27 : decode cX12_layer 27 = .ok (.iconst 0, 1) := by decide +kernel
theorem dX12_layer_28 : decode cX12_layer 28 = .ok (.iconst 2, 1) := by decide +kernel
theorem dX12_layer_29 : decode cX12_layer 29 = .ok (.invokestatic 224, 3) := by decide +kernel
theorem dX12_layer_32 : decode cX12_layer 32 = .ok (.ifCond .eq 13, 3) := by decide +kernel
theorem dX12_layer_35 : decode cX12_layer 35 = .ok (.aload_n 0, 1) := by decide +kernel
theorem dX12_layer_36 : decode cX12_layer 36 = .ok (.iload_n 1, 1) := by decide +kernel
theorem dX12_layer_37 : decode cX12_layer 37 = .ok (.iload_n 2, 1) := by decide +kernel
theorem dX12_layer_38 : decode cX12_layer 38 = .ok (.iload_n 3, 1) := by decide +kernel
theorem dX12_layer_39 : decode cX12_layer 39 = .ok (.invokevirtual 295, 3) := by decide +kernel
theorem dX12_layer_42 : decode cX12_layer 42 = .ok (.goto 4, 3) := by decide +kernel
theorem dX12_layer_45 : decode cX12_layer 45 = .ok (.iconst (-1), 1) := by decide +kernel
theorem dX12_layer_46 : decode cX12_layer 46 = .ok (.ireturn, 1) := by decide +kernel
set_option maxRecDepth 20000 in
def kX12_layer_0 (g : sk_G) (d ck sk : Nat) (Q : sk_P) : sk_K := o_aload 0 (o_iload 1 (o_invT (g, d, ck, sk, xX12_layer, Q) 2 1 12 (fun Q => kX12_isCell_0 g (d - 1) 0 0 Q) (o_ifeq (o_i (-1) (o_iret (g, d, ck, sk, xX12_layer, Q))) (o_iload 2 (o_i (0) (o_aload 0 (o_getf 12 28 (o_i (0) (o_iload 1 (o_iadd (o_iaload (o_i (1) (o_isub (o_stcT (g, d, ck, sk, xX12_layer, Q) 3 3 (fun Q => kX12_in_0 g (d - 1) 0 0 Q) (o_ifeq (o_i (-1) (o_iret (g, d, ck, sk, xX12_layer, Q))) (o_iload 3 (o_i (0) (o_i (2) (o_stcT (g, d, ck, sk, xX12_layer, Q) 3 3 (fun Q => kX12_in_0 g (d - 1) 0 0 Q) (o_ifeq (o_i (-1) (o_iret (g, d, ck, sk, xX12_layer, Q))) (o_aload 0 (o_iload 1 (o_iload 2 (o_iload 3 (o_invT (g, d, ck, sk, xX12_layer, Q) 4 3 12 (fun Q => kX12_of_0 g (d - 1) 0 0 Q) (o_iret (g, d, ck, sk, xX12_layer, Q)))))))))))))))))))))))))))
set_option maxRecDepth 20000 in
theorem tX12_layer_0 {g : sk_G} {d ck sk : Nat} {Q : sk_P} : sk_S (g, d, ck, sk, xX12_layer, Q) 0 (kX12_layer_0 g d ck sk Q) := s_aload_n dX12_layer_0 rfl (s_iload_n dX12_layer_1 rfl (s_invT (X := xX12_isCell) (ci := 12) (T := TX12) (N := 49) (K := (fun Q => kX12_isCell_0 g (d - 1) 0 0 Q)) (fun _ => tX12_isCell_0) rfl dX12_layer_2 m_X12_isCell rfl (by decide) qm_X12_355 qi_X12_isCell qe_X12_isCell (s_ifeq (tgt := 45) dX12_layer_5 (by decide) (s_iconst dX12_layer_45 (s_iret dX12_layer_46 rfl)) (s_iload_n dX12_layer_8 rfl (s_iconst dX12_layer_9 (s_aload_n dX12_layer_10 rfl (s_getf (ci := 12) (j := 28) (C := RX12) (T := TX12) (N := 49) dX12_layer_11 rfl (by decide) (by decide) qf_X12_61 (s_iconst dX12_layer_14 (s_iload_n dX12_layer_15 rfl (s_iadd dX12_layer_16 (s_iaload dX12_layer_17 (s_iconst dX12_layer_18 (s_isub dX12_layer_19 (s_stcT (X := xX12_in) (K := (fun Q => kX12_in_0 g (d - 1) 0 0 Q)) (fun _ => tX12_in_0) rfl dX12_layer_20 m_X12_in qm_X12_224 qs_X12_in (s_ifeq (tgt := 45) dX12_layer_23 (by decide) (s_iconst dX12_layer_45 (s_iret dX12_layer_46 rfl)) (s_iload_n dX12_layer_26 rfl (s_iconst dX12_layer_27 (s_iconst dX12_layer_28 (s_stcT (X := xX12_in) (K := (fun Q => kX12_in_0 g (d - 1) 0 0 Q)) (fun _ => tX12_in_0) rfl dX12_layer_29 m_X12_in qm_X12_224 qs_X12_in (s_ifeq (tgt := 45) dX12_layer_32 (by decide) (s_iconst dX12_layer_45 (s_iret dX12_layer_46 rfl)) (s_aload_n dX12_layer_35 rfl (s_iload_n dX12_layer_36 rfl (s_iload_n dX12_layer_37 rfl (s_iload_n dX12_layer_38 rfl (s_invT (X := xX12_of) (ci := 12) (T := TX12) (N := 49) (K := (fun Q => kX12_of_0 g (d - 1) 0 0 Q)) (fun _ => tX12_of_0) rfl dX12_layer_39 m_X12_of rfl (by decide) qm_X12_295 qi_X12_of qe_X12_of (s_goto (tgt := 46) dX12_layer_42 (by decide) (s_iret dX12_layer_46 rfl)))))))))))))))))))))))))))
theorem dX12_law_0 : decode cX12_law 0 = .ok (.iload_n 1, 1) := by decide +kernel
theorem dX12_law_1 : decode cX12_law 1 = .ok (.iconst (-1), 1) := by decide +kernel
theorem dX12_law_2 : decode cX12_law 2 = .ok (.aload_n 0, 1) := by decide +kernel
theorem dX12_law_3 : decode cX12_law 3 = .ok (.getfield 289, 3) := by decide +kernel
theorem dX12_law_6 : decode cX12_law 6 = .ok (.iconst 1, 1) := by decide +kernel
theorem dX12_law_7 : decode cX12_law 7 = .ok (.isub, 1) := by decide +kernel
theorem dX12_law_8 : decode cX12_law 8 = .ok (.invokestatic 224, 3) := by decide +kernel
theorem dX12_law_11 : decode cX12_law 11 = .ok (.ifCond .ne 5, 3) := by decide +kernel
theorem dX12_law_14 : decode cX12_law 14 = .ok (.iconst 0, 1) := by decide +kernel
theorem dX12_law_15 : decode cX12_law 15 = .ok (.ireturn, 1) := by decide +kernel
theorem dX12_law_16 : decode cX12_law 16 = .ok (.aload_n 0, 1) := by decide +kernel
theorem dX12_law_17 : decode cX12_law 17 = .ok (.iload_n 1, 1) := by decide +kernel
theorem dX12_law_18 : decode cX12_law 18 = .ok (.putfield 67, 3) := by decide +kernel
theorem dX12_law_21 : decode cX12_law 21 = .ok (.iconst 1, 1) := by decide +kernel
theorem dX12_law_22 : decode cX12_law 22 = .ok (.ireturn, 1) := by decide +kernel
set_option maxRecDepth 20000 in
def kX12_law_0 (g : sk_G) (d ck sk : Nat) (Q : sk_P) : sk_K := o_iload 1 (o_i (-1) (o_aload 0 (o_getf 12 13 (o_i (1) (o_isub (o_stcT (g, d, ck, sk, xX12_law, Q) 3 3 (fun Q => kX12_in_0 g (d - 1) 0 0 Q) (o_ifne (o_aload 0 (o_iload 1 (o_puti 12 30 (o_i (1) (o_zret (g, d, ck, sk, xX12_law, Q)))))) (o_i (0) (o_zret (g, d, ck, sk, xX12_law, Q))))))))))
set_option maxRecDepth 20000 in
theorem tX12_law_0 {g : sk_G} {d ck sk : Nat} {Q : sk_P} : sk_S (g, d, ck, sk, xX12_law, Q) 0 (kX12_law_0 g d ck sk Q) := s_iload_n dX12_law_0 rfl (s_iconst dX12_law_1 (s_aload_n dX12_law_2 rfl (s_getf (ci := 12) (j := 13) (C := RX12) (T := TX12) (N := 49) dX12_law_3 rfl (by decide) (by decide) qf_X12_289 (s_iconst dX12_law_6 (s_isub dX12_law_7 (s_stcT (X := xX12_in) (K := (fun Q => kX12_in_0 g (d - 1) 0 0 Q)) (fun _ => tX12_in_0) rfl dX12_law_8 m_X12_in qm_X12_224 qs_X12_in (s_ifne (tgt := 16) dX12_law_11 (by decide) (s_aload_n dX12_law_16 rfl (s_iload_n dX12_law_17 rfl (s_puti (ci := 12) (j := 30) (C := RX12) (T := TX12) (N := 49) dX12_law_18 rfl (by decide) (by decide) rfl (tyX12_ok 30 (by decide)) qf_X12_67 (s_iconst dX12_law_21 (s_zret dX12_law_22 rfl))))) (s_iconst dX12_law_14 (s_zret dX12_law_15 rfl)))))))))
theorem dX12_scribes_0 : decode cX12_scribes 0 = .ok (.iload_n 1, 1) := by decide +kernel
theorem dX12_scribes_1 : decode cX12_scribes 1 = .ok (.iconst 0, 1) := by decide +kernel
theorem dX12_scribes_2 : decode cX12_scribes 2 = .ok (.bipush 9, 2) := by decide +kernel
theorem dX12_scribes_4 : decode cX12_scribes 4 = .ok (.invokestatic 224, 3) := by decide +kernel
theorem dX12_scribes_7 : decode cX12_scribes 7 = .ok (.ifCond .eq 11, 3) := by decide +kernel
theorem dX12_scribes_10 : decode cX12_scribes 10 = .ok (.iload_n 1, 1) := by decide +kernel
theorem dX12_scribes_11 : decode cX12_scribes 11 = .ok (.aload_n 0, 1) := by decide +kernel
theorem dX12_scribes_12 : decode cX12_scribes 12 = .ok (.getfield 71, 3) := by decide +kernel
theorem dX12_scribes_15 : decode cX12_scribes 15 = .ok (.if_icmp .ne 5, 3) := by decide +kernel
theorem dX12_scribes_18 : decode cX12_scribes 18 = .ok (.iconst 0, 1) := by decide +kernel
theorem dX12_scribes_19 : decode cX12_scribes 19 = .ok (.ireturn, 1) := by decide +kernel
theorem dX12_scribes_20 : decode cX12_scribes 20 = .ok (.aload_n 0, 1) := by decide +kernel
theorem dX12_scribes_21 : decode cX12_scribes 21 = .ok (.iload_n 1, 1) := by decide +kernel
theorem dX12_scribes_22 : decode cX12_scribes 22 = .ok (.putfield 71, 3) := by decide +kernel
theorem dX12_scribes_25 : decode cX12_scribes 25 = .ok (.iconst 1, 1) := by decide +kernel
theorem dX12_scribes_26 : decode cX12_scribes 26 = .ok (.ireturn, 1) := by decide +kernel
set_option maxRecDepth 20000 in
def kX12_scribes_0 (g : sk_G) (d ck sk : Nat) (Q : sk_P) : sk_K := o_iload 1 (o_i (0) (o_i (9) (o_stcT (g, d, ck, sk, xX12_scribes, Q) 3 3 (fun Q => kX12_in_0 g (d - 1) 0 0 Q) (o_ifeq (o_i (0) (o_zret (g, d, ck, sk, xX12_scribes, Q))) (o_iload 1 (o_aload 0 (o_getf 12 31 (o_icne (o_aload 0 (o_iload 1 (o_puti 12 31 (o_i (1) (o_zret (g, d, ck, sk, xX12_scribes, Q)))))) (o_i (0) (o_zret (g, d, ck, sk, xX12_scribes, Q)))))))))))
set_option maxRecDepth 20000 in
theorem tX12_scribes_0 {g : sk_G} {d ck sk : Nat} {Q : sk_P} : sk_S (g, d, ck, sk, xX12_scribes, Q) 0 (kX12_scribes_0 g d ck sk Q) := s_iload_n dX12_scribes_0 rfl (s_iconst dX12_scribes_1 (s_bipush dX12_scribes_2 rfl (s_stcT (X := xX12_in) (K := (fun Q => kX12_in_0 g (d - 1) 0 0 Q)) (fun _ => tX12_in_0) rfl dX12_scribes_4 m_X12_in qm_X12_224 qs_X12_in (s_ifeq (tgt := 18) dX12_scribes_7 (by decide) (s_iconst dX12_scribes_18 (s_zret dX12_scribes_19 rfl)) (s_iload_n dX12_scribes_10 rfl (s_aload_n dX12_scribes_11 rfl (s_getf (ci := 12) (j := 31) (C := RX12) (T := TX12) (N := 49) dX12_scribes_12 rfl (by decide) (by decide) qf_X12_71 (s_icne (tgt := 20) dX12_scribes_15 (by decide) (s_aload_n dX12_scribes_20 rfl (s_iload_n dX12_scribes_21 rfl (s_puti (ci := 12) (j := 31) (C := RX12) (T := TX12) (N := 49) dX12_scribes_22 rfl (by decide) (by decide) rfl (tyX12_ok 31 (by decide)) qf_X12_71 (s_iconst dX12_scribes_25 (s_zret dX12_scribes_26 rfl))))) (s_iconst dX12_scribes_18 (s_zret dX12_scribes_19 rfl))))))))))
theorem dX12_write_0 : decode cX12_write 0 = .ok (.aload_n 0, 1) := by decide +kernel
theorem dX12_write_1 : decode cX12_write 1 = .ok (.aload_n 0, 1) := by decide +kernel
theorem dX12_write_2 : decode cX12_write 2 = .ok (.iload_n 1, 1) := by decide +kernel
theorem dX12_write_3 : decode cX12_write 3 = .ok (.invokevirtual 343, 3) := by decide +kernel
theorem dX12_write_6 : decode cX12_write 6 = .ok (.ifCond .eq 11, 3) := by decide +kernel
theorem dX12_write_9 : decode cX12_write 9 = .ok (.aload_n 0, 1) := by decide +kernel
theorem dX12_write_10 : decode cX12_write 10 = .ok (.iload_n 2, 1) := by decide +kernel
theorem dX12_write_11 : decode cX12_write 11 = .ok (.invokevirtual 352, 3) := by decide +kernel
theorem dX12_write_14 : decode cX12_write 14 = .ok (.ifCond .ne 7, 3) := by decide +kernel
theorem dX12_write_17 : decode cX12_write 17 = .ok (.iconst 0, 1) := by decide +kernel
theorem dX12_write_18 : decode cX12_write 18 = .ok (.goto 68, 3) := by decide +kernel
theorem dX12_write_21 : decode cX12_write 21 = .ok (.aload_n 0, 1) := by decide +kernel
theorem dX12_write_22 : decode cX12_write 22 = .ok (.iload_n 3, 1) := by decide +kernel
theorem dX12_write_23 : decode cX12_write 23 = .ok (.invokevirtual 355, 3) := by decide +kernel
theorem dX12_write_26 : decode cX12_write 26 = .ok (.ifCond .eq 24, 3) := by decide +kernel
theorem dX12_write_29 : decode cX12_write 29 = .ok (.iload 4, 2) := by decide +kernel
theorem dX12_write_31 : decode cX12_write 31 = .ok (.iconst 0, 1) := by decide +kernel
theorem dX12_write_32 : decode cX12_write 32 = .ok (.iconst 3, 1) := by decide +kernel
theorem dX12_write_33 : decode cX12_write 33 = .ok (.invokestatic 224, 3) := by decide +kernel
theorem dX12_write_36 : decode cX12_write 36 = .ok (.ifCond .eq 14, 3) := by decide +kernel
theorem dX12_write_39 : decode cX12_write 39 = .ok (.aload_n 0, 1) := by decide +kernel
theorem dX12_write_40 : decode cX12_write 40 = .ok (.iload_n 1, 1) := by decide +kernel
theorem dX12_write_41 : decode cX12_write 41 = .ok (.iload_n 3, 1) := by decide +kernel
theorem dX12_write_42 : decode cX12_write 42 = .ok (.iload 4, 2) := by decide +kernel
theorem dX12_write_44 : decode cX12_write 44 = .ok (.invokevirtual 346, 3) := by decide +kernel
theorem dX12_write_47 : decode cX12_write 47 = .ok (.ifCond .ne 7, 3) := by decide +kernel
theorem dX12_write_50 : decode cX12_write 50 = .ok (.iconst 1, 1) := by decide +kernel
theorem dX12_write_51 : decode cX12_write 51 = .ok (.goto 35, 3) := by decide +kernel
theorem dX12_write_54 : decode cX12_write 54 = .ok (.aload_n 0, 1) := by decide +kernel
theorem dX12_write_55 : decode cX12_write 55 = .ok (.getfield 61, 3) := by decide +kernel
theorem dX12_write_58 : decode cX12_write 58 = .ok (.sipush 760, 3) := by decide +kernel
theorem dX12_write_61 : decode cX12_write 61 = .ok (.iaload, 1) := by decide +kernel
theorem dX12_write_62 : decode cX12_write 62 = .ok (.aload_n 0, 1) := by decide +kernel
theorem dX12_write_63 : decode cX12_write 63 = .ok (.iload_n 1, 1) := by decide +kernel
theorem dX12_write_64 : decode cX12_write 64 = .ok (.invokevirtual 358, 3) := by decide +kernel
theorem dX12_write_67 : decode cX12_write 67 = .ok (.if_icmp .lt 14, 3) := by decide +kernel
theorem dX12_write_70 : decode cX12_write 70 = .ok (.aload_n 0, 1) := by decide +kernel
theorem dX12_write_71 : decode cX12_write 71 = .ok (.iload_n 1, 1) := by decide +kernel
theorem dX12_write_72 : decode cX12_write 72 = .ok (.iload_n 3, 1) := by decide +kernel
theorem dX12_write_73 : decode cX12_write 73 = .ok (.iload 4, 2) := by decide +kernel
theorem dX12_write_75 : decode cX12_write 75 = .ok (.invokevirtual 361, 3) := by decide +kernel
theorem dX12_write_78 : decode cX12_write 78 = .ok (.ifCond .eq 7, 3) := by decide +kernel
theorem dX12_write_81 : decode cX12_write 81 = .ok (.iconst 3, 1) := by decide +kernel
theorem dX12_write_82 : decode cX12_write 82 = .ok (.goto 4, 3) := by decide +kernel
theorem dX12_write_85 : decode cX12_write 85 = .ok (.iconst (-1), 1) := by decide +kernel
theorem dX12_write_86 : decode cX12_write 86 = .ok (.invokevirtual 364, 3) := by decide +kernel
theorem dX12_write_89 : decode cX12_write 89 = .ok (.ifCond .eq 5, 3) := by decide +kernel
theorem dX12_write_92 : decode cX12_write 92 = .ok (.iconst (-1), 1) := by decide +kernel
theorem dX12_write_93 : decode cX12_write 93 = .ok (.ireturn, 1) := by decide +kernel
theorem dX12_write_94 : decode cX12_write 94 = .ok (.aload_n 0, 1) := by decide +kernel
theorem dX12_write_95 : decode cX12_write 95 = .ok (.invokevirtual 367, 3) := by decide +kernel
theorem dX12_write_98 : decode cX12_write 98 = .ok (.aload_n 0, 1) := by decide +kernel
theorem dX12_write_99 : decode cX12_write 99 = .ok (.getfield 61, 3) := by decide +kernel
theorem dX12_write_102 : decode cX12_write 102 = .ok (.sipush 760, 3) := by decide +kernel
theorem dX12_write_105 : decode cX12_write 105 = .ok (.dup2, 1) := by decide +kernel
theorem dX12_write_106 : decode cX12_write 106 = .ok (.iaload, 1) := by decide +kernel
theorem dX12_write_107 : decode cX12_write 107 = .ok (.aload_n 0, 1) := by decide +kernel
theorem dX12_write_108 : decode cX12_write 108 = .ok (.iload_n 1, 1) := by decide +kernel
theorem dX12_write_109 : decode cX12_write 109 = .ok (.invokevirtual 358, 3) := by decide +kernel
theorem dX12_write_112 : decode cX12_write 112 = .ok (.isub, 1) := by decide +kernel
theorem dX12_write_113 : decode cX12_write 113 = .ok (.iastore, 1) := by decide +kernel
theorem dX12_write_114 : decode cX12_write 114 = .ok (.aload_n 0, 1) := by decide +kernel
theorem dX12_write_115 : decode cX12_write 115 = .ok (.iload_n 1, 1) := by decide +kernel
theorem dX12_write_116 : decode cX12_write 116 = .ok (.iload_n 2, 1) := by decide +kernel
theorem dX12_write_117 : decode cX12_write 117 = .ok (.iload_n 3, 1) := by decide +kernel
theorem dX12_write_118 : decode cX12_write 118 = .ok (.iload 4, 2) := by decide +kernel
theorem dX12_write_120 : decode cX12_write 120 = .ok (.invokevirtual 370, 3) := by decide +kernel
theorem dX12_write_123 : decode cX12_write 123 = .ok (.aload_n 0, 1) := by decide +kernel
theorem dX12_write_124 : decode cX12_write 124 = .ok (.invokevirtual 373, 3) := by decide +kernel
theorem dX12_write_127 : decode cX12_write 127 = .ok (.ireturn, 1) := by decide +kernel
set_option maxRecDepth 20000 in
def kX12_write_0 (g : sk_G) (d ck sk : Nat) (Q : sk_P) : sk_K := o_aload 0 (o_aload 0 (o_iload 1 (o_invT (g, d, ck, sk, xX12_write, Q) 2 1 12 (fun Q => kX12_isWriting_0 g (d - 1) 0 0 Q) (o_ifeq (o_i (0) (sk_B (g, d, ck, sk, xX12_write, Q) 86)) (o_aload 0 (o_iload 2 (o_invT (g, d, ck, sk, xX12_write, Q) 2 1 12 (fun Q => kX12_isHand_0 g (d - 1) 0 0 Q) (o_ifne (o_aload 0 (o_iload 3 (o_invT (g, d, ck, sk, xX12_write, Q) 2 1 12 (fun Q => kX12_isCell_0 g (d - 1) 0 0 Q) (o_ifeq (o_i (1) (sk_B (g, d, ck, sk, xX12_write, Q) 86)) (o_iload 4 (o_i (0) (o_i (3) (o_stcT (g, d, ck, sk, xX12_write, Q) 3 3 (fun Q => kX12_in_0 g (d - 1) 0 0 Q) (o_ifeq (o_i (1) (sk_B (g, d, ck, sk, xX12_write, Q) 86)) (o_aload 0 (o_iload 1 (o_iload 3 (o_iload 4 (o_invB (g, d, ck, sk, xX12_write, Q) xX12_doesAt 3 12 0 0 (o_ifne (o_aload 0 (o_getf 12 28 (o_i (760) (o_iaload (o_aload 0 (o_iload 1 (o_invB (g, d, ck, sk, xX12_write, Q) xX12_lineMany 1 12 0 0 (o_iclt (o_i (3) (sk_B (g, d, ck, sk, xX12_write, Q) 86)) (o_aload 0 (o_iload 1 (o_iload 3 (o_iload 4 (o_invB (g, d, ck, sk, xX12_write, Q) xX12_isFull 3 12 0 0 (o_ifeq (o_i (-1) (sk_B (g, d, ck, sk, xX12_write, Q) 86)) (o_i (3) (sk_B (g, d, ck, sk, xX12_write, Q) 86)))))))))))))))) (o_i (1) (sk_B (g, d, ck, sk, xX12_write, Q) 86))))))))))))))))) (o_i (0) (sk_B (g, d, ck, sk, xX12_write, Q) 86))))))))))
set_option maxRecDepth 20000 in
theorem tX12_write_0 {g : sk_G} {d ck sk : Nat} {Q : sk_P} : sk_S (g, d, ck, sk, xX12_write, Q) 0 (kX12_write_0 g d ck sk Q) := s_aload_n dX12_write_0 rfl (s_aload_n dX12_write_1 rfl (s_iload_n dX12_write_2 rfl (s_invT (X := xX12_isWriting) (ci := 12) (T := TX12) (N := 49) (K := (fun Q => kX12_isWriting_0 g (d - 1) 0 0 Q)) (fun _ => tX12_isWriting_0) rfl dX12_write_3 m_X12_isWriting rfl (by decide) qm_X12_343 qi_X12_isWriting qe_X12_isWriting (s_ifeq (tgt := 17) dX12_write_6 (by decide) (s_iconst dX12_write_17 (s_goto (tgt := 86) dX12_write_18 (by decide) (sk_id))) (s_aload_n dX12_write_9 rfl (s_iload_n dX12_write_10 rfl (s_invT (X := xX12_isHand) (ci := 12) (T := TX12) (N := 49) (K := (fun Q => kX12_isHand_0 g (d - 1) 0 0 Q)) (fun _ => tX12_isHand_0) rfl dX12_write_11 m_X12_isHand rfl (by decide) qm_X12_352 qi_X12_isHand qe_X12_isHand (s_ifne (tgt := 21) dX12_write_14 (by decide) (s_aload_n dX12_write_21 rfl (s_iload_n dX12_write_22 rfl (s_invT (X := xX12_isCell) (ci := 12) (T := TX12) (N := 49) (K := (fun Q => kX12_isCell_0 g (d - 1) 0 0 Q)) (fun _ => tX12_isCell_0) rfl dX12_write_23 m_X12_isCell rfl (by decide) qm_X12_355 qi_X12_isCell qe_X12_isCell (s_ifeq (tgt := 50) dX12_write_26 (by decide) (s_iconst dX12_write_50 (s_goto (tgt := 86) dX12_write_51 (by decide) (sk_id))) (s_iload dX12_write_29 (s_iconst dX12_write_31 (s_iconst dX12_write_32 (s_stcT (X := xX12_in) (K := (fun Q => kX12_in_0 g (d - 1) 0 0 Q)) (fun _ => tX12_in_0) rfl dX12_write_33 m_X12_in qm_X12_224 qs_X12_in (s_ifeq (tgt := 50) dX12_write_36 (by decide) (s_iconst dX12_write_50 (s_goto (tgt := 86) dX12_write_51 (by decide) (sk_id))) (s_aload_n dX12_write_39 rfl (s_iload_n dX12_write_40 rfl (s_iload_n dX12_write_41 rfl (s_iload dX12_write_42 (s_invB (w' := (g, d, ck, sk, xX12_write, Q)) (ci := 12) (ck := 0) (sk := 0) (T := TX12) (N := 49) dX12_write_44 m_X12_doesAt rfl (by decide) qm_X12_346 qi_X12_doesAt qe_X12_doesAt rfl (s_ifne (tgt := 54) dX12_write_47 (by decide) (s_aload_n dX12_write_54 rfl (s_getf (ci := 12) (j := 28) (C := RX12) (T := TX12) (N := 49) dX12_write_55 rfl (by decide) (by decide) qf_X12_61 (s_sipush dX12_write_58 rfl (s_iaload dX12_write_61 (s_aload_n dX12_write_62 rfl (s_iload_n dX12_write_63 rfl (s_invB (w' := (g, d, ck, sk, xX12_write, Q)) (ci := 12) (ck := 0) (sk := 0) (T := TX12) (N := 49) dX12_write_64 m_X12_lineMany rfl (by decide) qm_X12_358 qi_X12_lineMany qe_X12_lineMany rfl (s_iclt (tgt := 81) dX12_write_67 (by decide) (s_iconst dX12_write_81 (s_goto (tgt := 86) dX12_write_82 (by decide) (sk_id))) (s_aload_n dX12_write_70 rfl (s_iload_n dX12_write_71 rfl (s_iload_n dX12_write_72 rfl (s_iload dX12_write_73 (s_invB (w' := (g, d, ck, sk, xX12_write, Q)) (ci := 12) (ck := 0) (sk := 0) (T := TX12) (N := 49) dX12_write_75 m_X12_isFull rfl (by decide) qm_X12_361 qi_X12_isFull qe_X12_isFull rfl (s_ifeq (tgt := 85) dX12_write_78 (by decide) (s_iconst dX12_write_85 (sk_id)) (s_iconst dX12_write_81 (s_goto (tgt := 86) dX12_write_82 (by decide) (sk_id))))))))))))))))) (s_iconst dX12_write_50 (s_goto (tgt := 86) dX12_write_51 (by decide) (sk_id)))))))))))))))))) (s_iconst dX12_write_17 (s_goto (tgt := 86) dX12_write_18 (by decide) (sk_id)))))))))))
set_option maxRecDepth 20000 in
def kX12_write_86 (g : sk_G) (d ck sk : Nat) (Q : sk_P) : sk_K := o_invT (g, d, ck, sk, xX12_write, Q) 2 1 12 (fun Q => kX12_isRefused_0 g (d - 1) 0 0 Q) (o_ifeq (o_aload 0 (o_invB (g, d, ck, sk, xX12_write, Q) xX12_keep 0 12 0 0 (o_aload 0 (o_getf 12 28 (o_i (760) (o_dup2 (o_iaload (o_aload 0 (o_iload 1 (o_invB (g, d, ck, sk, xX12_write, Q) xX12_lineMany 1 12 0 0 (o_isub (o_iastore (o_aload 0 (o_iload 1 (o_iload 2 (o_iload 3 (o_iload 4 (o_invB (g, d, ck, sk, xX12_write, Q) xX12_writeNow 4 12 0 0 (o_aload 0 (o_invB (g, d, ck, sk, xX12_write, Q) xX12_layerAll 0 12 0 0 (o_iret (g, d, ck, sk, xX12_write, Q)))))))))))))))))))))) (o_i (-1) (o_iret (g, d, ck, sk, xX12_write, Q))))
set_option maxRecDepth 20000 in
theorem tX12_write_86 {g : sk_G} {d ck sk : Nat} {Q : sk_P} : sk_S (g, d, ck, sk, xX12_write, Q) 86 (kX12_write_86 g d ck sk Q) := s_invT (X := xX12_isRefused) (ci := 12) (T := TX12) (N := 49) (K := (fun Q => kX12_isRefused_0 g (d - 1) 0 0 Q)) (fun _ => tX12_isRefused_0) rfl dX12_write_86 m_X12_isRefused rfl (by decide) qm_X12_364 qi_X12_isRefused qe_X12_isRefused (s_ifeq (tgt := 94) dX12_write_89 (by decide) (s_aload_n dX12_write_94 rfl (s_invB (w' := (g, d, ck, sk, xX12_write, Q)) (ci := 12) (ck := 0) (sk := 0) (T := TX12) (N := 49) dX12_write_95 m_X12_keep rfl (by decide) qm_X12_367 qi_X12_keep qe_X12_keep rfl (s_aload_n dX12_write_98 rfl (s_getf (ci := 12) (j := 28) (C := RX12) (T := TX12) (N := 49) dX12_write_99 rfl (by decide) (by decide) qf_X12_61 (s_sipush dX12_write_102 rfl (s_dup2 dX12_write_105 (s_iaload dX12_write_106 (s_aload_n dX12_write_107 rfl (s_iload_n dX12_write_108 rfl (s_invB (w' := (g, d, ck, sk, xX12_write, Q)) (ci := 12) (ck := 0) (sk := 0) (T := TX12) (N := 49) dX12_write_109 m_X12_lineMany rfl (by decide) qm_X12_358 qi_X12_lineMany qe_X12_lineMany rfl (s_isub dX12_write_112 (s_iastore dX12_write_113 (s_aload_n dX12_write_114 rfl (s_iload_n dX12_write_115 rfl (s_iload_n dX12_write_116 rfl (s_iload_n dX12_write_117 rfl (s_iload dX12_write_118 (s_invB (w' := (g, d, ck, sk, xX12_write, Q)) (ci := 12) (ck := 0) (sk := 0) (T := TX12) (N := 49) dX12_write_120 m_X12_writeNow rfl (by decide) qm_X12_370 qi_X12_writeNow qe_X12_writeNow rfl (s_aload_n dX12_write_123 rfl (s_invB (w' := (g, d, ck, sk, xX12_write, Q)) (ci := 12) (ck := 0) (sk := 0) (T := TX12) (N := 49) dX12_write_124 m_X12_layerAll rfl (by decide) qm_X12_373 qi_X12_layerAll qe_X12_layerAll rfl (s_iret dX12_write_127 rfl))))))))))))))))))))) (s_iconst dX12_write_92 (s_iret dX12_write_93 rfl)))
theorem dX12_doesAt_0 : decode cX12_doesAt 0 = .ok (.iconst 0, 1) := by decide +kernel
theorem dX12_doesAt_1 : decode cX12_doesAt 1 = .ok (.istore 4, 2) := by decide +kernel
theorem dX12_doesAt_3 : decode cX12_doesAt 3 = .ok (.iload 4, 2) := by decide +kernel
theorem dX12_doesAt_5 : decode cX12_doesAt 5 = .ok (.aload_n 0, 1) := by decide +kernel
theorem dX12_doesAt_6 : decode cX12_doesAt 6 = .ok (.getfield 55, 3) := by decide +kernel
theorem dX12_doesAt_9 : decode cX12_doesAt 9 = .ok (.iload_n 1, 1) := by decide +kernel
theorem dX12_doesAt_10 : decode cX12_doesAt 10 = .ok (.iaload, 1) := by decide +kernel
theorem dX12_doesAt_11 : decode cX12_doesAt 11 = .ok (.if_icmp .ge 24, 3) := by decide +kernel
theorem dX12_doesAt_14 : decode cX12_doesAt 14 = .ok (.aload_n 0, 1) := by decide +kernel
theorem dX12_doesAt_15 : decode cX12_doesAt 15 = .ok (.iload_n 1, 1) := by decide +kernel
theorem dX12_doesAt_16 : decode cX12_doesAt 16 = .ok (.iload 4, 2) := by decide +kernel
theorem dX12_doesAt_18 : decode cX12_doesAt 18 = .ok (.iload_n 2, 1) := by decide +kernel
theorem dX12_doesAt_19 : decode cX12_doesAt 19 = .ok (.iload_n 3, 1) := by decide +kernel
theorem dX12_doesAt_20 : decode cX12_doesAt 20 = .ok (.invokevirtual 339, 3) := by decide +kernel
theorem dX12_doesAt_23 : decode cX12_doesAt 23 = .ok (.iconst (-1), 1) := by decide +kernel
theorem dX12_doesAt_24 : decode cX12_doesAt 24 = .ok (.if_icmp .ne 5, 3) := by decide +kernel
theorem dX12_doesAt_27 : decode cX12_doesAt 27 = .ok (.iconst 0, 1) := by decide +kernel
theorem dX12_doesAt_28 : decode cX12_doesAt 28 = .ok (.ireturn, 1) := by decide +kernel
theorem dX12_doesAt_29 : decode cX12_doesAt 29 = .ok (.iinc 4 1, 3) := by decide +kernel
theorem dX12_doesAt_32 : decode cX12_doesAt 32 = .ok (.goto (-29), 3) := by decide +kernel
theorem dX12_doesAt_35 : decode cX12_doesAt 35 = .ok (.iconst 1, 1) := by decide +kernel
theorem dX12_doesAt_36 : decode cX12_doesAt 36 = .ok (.ireturn, 1) := by decide +kernel
def kX12_doesAt_0 (g : sk_G) (d ck sk : Nat) (Q : sk_P) : sk_K := o_i (0) (o_istore 4 (sk_B (g, d, ck, sk, xX12_doesAt, Q) 3))
theorem tX12_doesAt_0 {g : sk_G} {d ck sk : Nat} {Q : sk_P} : sk_S (g, d, ck, sk, xX12_doesAt, Q) 0 (kX12_doesAt_0 g d ck sk Q) := s_iconst dX12_doesAt_0 (s_istore dX12_doesAt_1 (by decide : 4 < 5) (sk_id))
set_option maxRecDepth 20000 in
def kX12_doesAt_3 (g : sk_G) (d ck sk : Nat) (Q : sk_P) : sk_K := o_iload 4 (o_aload 0 (o_getf 12 25 (o_iload 1 (o_iaload (o_icge (o_i (1) (o_zret (g, d, ck, sk, xX12_doesAt, Q))) (o_aload 0 (o_iload 1 (o_iload 4 (o_iload 2 (o_iload 3 (o_invB (g, d, ck, sk, xX12_doesAt, Q) xX12_cellOf 4 12 0 0 (o_i (-1) (o_icne (o_iinc 4 (1) (sk_B (g, d, ck, sk, xX12_doesAt, Q) 3)) (o_i (0) (o_zret (g, d, ck, sk, xX12_doesAt, Q))))))))))))))))
set_option maxRecDepth 20000 in
theorem tX12_doesAt_3 {g : sk_G} {d ck sk : Nat} {Q : sk_P} : sk_S (g, d, ck, sk, xX12_doesAt, Q) 3 (kX12_doesAt_3 g d ck sk Q) := s_iload dX12_doesAt_3 (s_aload_n dX12_doesAt_5 rfl (s_getf (ci := 12) (j := 25) (C := RX12) (T := TX12) (N := 49) dX12_doesAt_6 rfl (by decide) (by decide) qf_X12_55 (s_iload_n dX12_doesAt_9 rfl (s_iaload dX12_doesAt_10 (s_icge (tgt := 35) dX12_doesAt_11 (by decide) (s_iconst dX12_doesAt_35 (s_zret dX12_doesAt_36 rfl)) (s_aload_n dX12_doesAt_14 rfl (s_iload_n dX12_doesAt_15 rfl (s_iload dX12_doesAt_16 (s_iload_n dX12_doesAt_18 rfl (s_iload_n dX12_doesAt_19 rfl (s_invB (w' := (g, d, ck, sk, xX12_doesAt, Q)) (ci := 12) (ck := 0) (sk := 0) (T := TX12) (N := 49) dX12_doesAt_20 m_X12_cellOf rfl (by decide) qm_X12_339 qi_X12_cellOf qe_X12_cellOf rfl (s_iconst dX12_doesAt_23 (s_icne (tgt := 29) dX12_doesAt_24 (by decide) (s_iinc dX12_doesAt_29 (by decide : 4 < 5) (s_goto (tgt := 3) dX12_doesAt_32 (by decide) (sk_id))) (s_iconst dX12_doesAt_27 (s_zret dX12_doesAt_28 rfl)))))))))))))))
theorem dX12_cellOf_0 : decode cX12_cellOf 0 = .ok (.aload_n 0, 1) := by decide +kernel
theorem dX12_cellOf_1 : decode cX12_cellOf 1 = .ok (.getfield 52, 3) := by decide +kernel
theorem dX12_cellOf_4 : decode cX12_cellOf 4 = .ok (.iconst 3, 1) := by decide +kernel
theorem dX12_cellOf_5 : decode cX12_cellOf 5 = .ok (.bipush 16, 2) := by decide +kernel
theorem dX12_cellOf_7 : decode cX12_cellOf 7 = .ok (.iload_n 1, 1) := by decide +kernel
theorem dX12_cellOf_8 : decode cX12_cellOf 8 = .ok (.imul, 1) := by decide +kernel
theorem dX12_cellOf_9 : decode cX12_cellOf 9 = .ok (.iload_n 2, 1) := by decide +kernel
theorem dX12_cellOf_10 : decode cX12_cellOf 10 = .ok (.iadd, 1) := by decide +kernel
theorem dX12_cellOf_11 : decode cX12_cellOf 11 = .ok (.imul, 1) := by decide +kernel
theorem dX12_cellOf_12 : decode cX12_cellOf 12 = .ok (.iconst 1, 1) := by decide +kernel
theorem dX12_cellOf_13 : decode cX12_cellOf 13 = .ok (.iadd, 1) := by decide +kernel
theorem dX12_cellOf_14 : decode cX12_cellOf 14 = .ok (.iaload, 1) := by decide +kernel
theorem dX12_cellOf_15 : decode cX12_cellOf 15 = .ok (.istore 5, 2) := by decide +kernel
theorem dX12_cellOf_17 : decode cX12_cellOf 17 = .ok (.aload_n 0, 1) := by decide +kernel
theorem dX12_cellOf_18 : decode cX12_cellOf 18 = .ok (.getfield 52, 3) := by decide +kernel
theorem dX12_cellOf_21 : decode cX12_cellOf 21 = .ok (.iconst 3, 1) := by decide +kernel
theorem dX12_cellOf_22 : decode cX12_cellOf 22 = .ok (.bipush 16, 2) := by decide +kernel
theorem dX12_cellOf_24 : decode cX12_cellOf 24 = .ok (.iload_n 1, 1) := by decide +kernel
theorem dX12_cellOf_25 : decode cX12_cellOf 25 = .ok (.imul, 1) := by decide +kernel
theorem dX12_cellOf_26 : decode cX12_cellOf 26 = .ok (.iload_n 2, 1) := by decide +kernel
theorem dX12_cellOf_27 : decode cX12_cellOf 27 = .ok (.iadd, 1) := by decide +kernel
theorem dX12_cellOf_28 : decode cX12_cellOf 28 = .ok (.imul, 1) := by decide +kernel
theorem dX12_cellOf_29 : decode cX12_cellOf 29 = .ok (.iconst 2, 1) := by decide +kernel
theorem dX12_cellOf_30 : decode cX12_cellOf 30 = .ok (.iadd, 1) := by decide +kernel
theorem dX12_cellOf_31 : decode cX12_cellOf 31 = .ok (.iaload, 1) := by decide +kernel
theorem dX12_cellOf_32 : decode cX12_cellOf 32 = .ok (.istore 6, 2) := by decide +kernel
theorem dX12_cellOf_34 : decode cX12_cellOf 34 = .ok (.iload_n 3, 1) := by decide +kernel
theorem dX12_cellOf_35 : decode cX12_cellOf 35 = .ok (.aload_n 0, 1) := by decide +kernel
theorem dX12_cellOf_36 : decode cX12_cellOf 36 = .ok (.getfield 46, 3) := by decide +kernel
theorem dX12_cellOf_39 : decode cX12_cellOf 39 = .ok (.iconst 0, 1) := by decide +kernel
theorem dX12_cellOf_40 : decode cX12_cellOf 40 = .ok (.iaload, 1) := by decide +kernel
theorem dX12_cellOf_41 : decode cX12_cellOf 41 = .ok (.irem, 1) := by decide +kernel
theorem dX12_cellOf_42 : decode cX12_cellOf 42 = .ok (.iload 4, 2) := by decide +kernel
theorem dX12_cellOf_44 : decode cX12_cellOf 44 = .ok (.ifCond .ne 8, 3) := by decide +kernel
theorem dX12_cellOf_47 : decode cX12_cellOf 47 = .ok (.iload 6, 2) := by decide +kernel
theorem dX12_cellOf_49 : decode cX12_cellOf 49 = .ok (.goto 29, 3) := by decide +kernel
theorem dX12_cellOf_52 : decode cX12_cellOf 52 = .ok (.iload 4, 2) := by decide +kernel
theorem dX12_cellOf_54 : decode cX12_cellOf 54 = .ok (.iconst 1, 1) := by decide +kernel
theorem dX12_cellOf_55 : decode cX12_cellOf 55 = .ok (.if_icmp .ne 9, 3) := by decide +kernel
theorem dX12_cellOf_58 : decode cX12_cellOf 58 = .ok (.iload 5, 2) := by decide +kernel
theorem dX12_cellOf_60 : decode cX12_cellOf 60 = .ok (.ineg, 1) := by decide +kernel
theorem dX12_cellOf_61 : decode cX12_cellOf 61 = .ok (.goto 17, 3) := by decide +kernel
theorem dX12_cellOf_64 : decode cX12_cellOf 64 = .ok (.iload 4, 2) := by decide +kernel
theorem dX12_cellOf_66 : decode cX12_cellOf 66 = .ok (.iconst 2, 1) := by decide +kernel
theorem dX12_cellOf_67 : decode cX12_cellOf 67 = .ok (.if_icmp .ne 9, 3) := by decide +kernel
theorem dX12_cellOf_70 : decode cX12_cellOf 70 = .ok (.iload 6, 2) := by decide +kernel
theorem dX12_cellOf_72 : decode cX12_cellOf 72 = .ok (.ineg, 1) := by decide +kernel
theorem dX12_cellOf_73 : decode cX12_cellOf 73 = .ok (.goto 5, 3) := by decide +kernel
theorem dX12_cellOf_76 : decode cX12_cellOf 76 = .ok (.iload 5, 2) := by decide +kernel
theorem dX12_cellOf_78 : decode cX12_cellOf 78 = .ok (.iadd, 1) := by decide +kernel
theorem dX12_cellOf_79 : decode cX12_cellOf 79 = .ok (.istore 7, 2) := by decide +kernel
theorem dX12_cellOf_81 : decode cX12_cellOf 81 = .ok (.iload_n 3, 1) := by decide +kernel
theorem dX12_cellOf_82 : decode cX12_cellOf 82 = .ok (.aload_n 0, 1) := by decide +kernel
theorem dX12_cellOf_83 : decode cX12_cellOf 83 = .ok (.getfield 46, 3) := by decide +kernel
theorem dX12_cellOf_86 : decode cX12_cellOf 86 = .ok (.iconst 0, 1) := by decide +kernel
theorem dX12_cellOf_87 : decode cX12_cellOf 87 = .ok (.iaload, 1) := by decide +kernel
theorem dX12_cellOf_88 : decode cX12_cellOf 88 = .ok (.idiv, 1) := by decide +kernel
theorem dX12_cellOf_89 : decode cX12_cellOf 89 = .ok (.iload 4, 2) := by decide +kernel
theorem dX12_cellOf_91 : decode cX12_cellOf 91 = .ok (.ifCond .ne 8, 3) := by decide +kernel
theorem dX12_cellOf_94 : decode cX12_cellOf 94 = .ok (.iload 5, 2) := by decide +kernel
theorem dX12_cellOf_96 : decode cX12_cellOf 96 = .ok (.goto 29, 3) := by decide +kernel
theorem dX12_cellOf_99 : decode cX12_cellOf 99 = .ok (.iload 4, 2) := by decide +kernel
theorem dX12_cellOf_101 : decode cX12_cellOf 101 = .ok (.iconst 1, 1) := by decide +kernel
theorem dX12_cellOf_102 : decode cX12_cellOf 102 = .ok (.if_icmp .ne 8, 3) := by decide +kernel
theorem dX12_cellOf_105 : decode cX12_cellOf 105 = .ok (.iload 6, 2) := by decide +kernel
theorem dX12_cellOf_107 : decode cX12_cellOf 107 = .ok (.goto 18, 3) := by decide +kernel
theorem dX12_cellOf_110 : decode cX12_cellOf 110 = .ok (.iload 4, 2) := by decide +kernel
theorem dX12_cellOf_112 : decode cX12_cellOf 112 = .ok (.iconst 2, 1) := by decide +kernel
theorem dX12_cellOf_113 : decode cX12_cellOf 113 = .ok (.if_icmp .ne 9, 3) := by decide +kernel
theorem dX12_cellOf_116 : decode cX12_cellOf 116 = .ok (.iload 5, 2) := by decide +kernel
theorem dX12_cellOf_118 : decode cX12_cellOf 118 = .ok (.ineg, 1) := by decide +kernel
theorem dX12_cellOf_119 : decode cX12_cellOf 119 = .ok (.goto 6, 3) := by decide +kernel
theorem dX12_cellOf_122 : decode cX12_cellOf 122 = .ok (.iload 6, 2) := by decide +kernel
theorem dX12_cellOf_124 : decode cX12_cellOf 124 = .ok (.ineg, 1) := by decide +kernel
theorem dX12_cellOf_125 : decode cX12_cellOf 125 = .ok (.iadd, 1) := by decide +kernel
theorem dX12_cellOf_126 : decode cX12_cellOf 126 = .ok (.istore 8, 2) := by decide +kernel
theorem dX12_cellOf_128 : decode cX12_cellOf 128 = .ok (.iload 7, 2) := by decide +kernel
theorem dX12_cellOf_130 : decode cX12_cellOf 130 = .ok (.iconst 0, 1) := by decide +kernel
theorem dX12_cellOf_131 : decode cX12_cellOf 131 = .ok (.aload_n 0, 1) := by decide +kernel
theorem dX12_cellOf_132 : decode cX12_cellOf 132 = .ok (.getfield 46, 3) := by decide +kernel
theorem dX12_cellOf_135 : decode cX12_cellOf 135 = .ok (.iconst 0, 1) := by decide +kernel
theorem dX12_cellOf_136 : decode cX12_cellOf 136 = .ok (.iaload, 1) := by decide +kernel
theorem dX12_cellOf_137 : decode cX12_cellOf 137 = .ok (.iconst 1, 1) := by decide +kernel
theorem dX12_cellOf_138 : decode cX12_cellOf 138 = .ok (.isub, 1) := by decide +kernel
theorem dX12_cellOf_139 : decode cX12_cellOf 139 = .ok (.invokestatic 224, 3) := by decide +kernel
theorem dX12_cellOf_142 : decode cX12_cellOf 142 = .ok (.ifCond .eq 35, 3) := by decide +kernel
theorem dX12_cellOf_145 : decode cX12_cellOf 145 = .ok (.iload 8, 2) := by decide +kernel
theorem dX12_cellOf_147 : decode cX12_cellOf 147 = .ok (.iconst 0, 1) := by decide +kernel
theorem dX12_cellOf_148 : decode cX12_cellOf 148 = .ok (.aload_n 0, 1) := by decide +kernel
theorem dX12_cellOf_149 : decode cX12_cellOf 149 = .ok (.getfield 46, 3) := by decide +kernel
theorem dX12_cellOf_152 : decode cX12_cellOf 152 = .ok (.iconst 1, 1) := by decide +kernel
theorem dX12_cellOf_153 : decode cX12_cellOf 153 = .ok (.iaload, 1) := by decide +kernel
theorem dX12_cellOf_154 : decode cX12_cellOf 154 = .ok (.iconst 1, 1) := by decide +kernel
theorem dX12_cellOf_155 : decode cX12_cellOf 155 = .ok (.isub, 1) := by decide +kernel
theorem dX12_cellOf_156 : decode cX12_cellOf 156 = .ok (.invokestatic 224, 3) := by decide +kernel
theorem dX12_cellOf_159 : decode cX12_cellOf 159 = .ok (.ifCond .eq 18, 3) := by decide +kernel
theorem dX12_cellOf_162 : decode cX12_cellOf 162 = .ok (.aload_n 0, 1) := by decide +kernel
theorem dX12_cellOf_163 : decode cX12_cellOf 163 = .ok (.getfield 46, 3) := by decide +kernel
theorem dX12_cellOf_166 : decode cX12_cellOf 166 = .ok (.iconst 0, 1) := by decide +kernel
theorem dX12_cellOf_167 : decode cX12_cellOf 167 = .ok (.iaload, 1) := by decide +kernel
theorem dX12_cellOf_168 : decode cX12_cellOf 168 = .ok (.iload 8, 2) := by decide +kernel
theorem dX12_cellOf_170 : decode cX12_cellOf 170 = .ok (.imul, 1) := by decide +kernel
theorem dX12_cellOf_171 : decode cX12_cellOf 171 = .ok (.iload 7, 2) := by decide +kernel
theorem dX12_cellOf_173 : decode cX12_cellOf 173 = .ok (.iadd, 1) := by decide +kernel
theorem dX12_cellOf_174 : decode cX12_cellOf 174 = .ok (.goto 4, 3) := by decide +kernel
theorem dX12_cellOf_177 : decode cX12_cellOf 177 = .ok (.iconst (-1), 1) := by decide +kernel
theorem dX12_cellOf_178 : decode cX12_cellOf 178 = .ok (.ireturn, 1) := by decide +kernel
set_option maxRecDepth 20000 in
def kX12_cellOf_0 (g : sk_G) (d ck sk : Nat) (Q : sk_P) : sk_K := o_aload 0 (o_getf 12 24 (o_i (3) (o_i (16) (o_iload 1 (o_imul (o_iload 2 (o_iadd (o_imul (o_i (1) (o_iadd (o_iaload (o_istore 5 (o_aload 0 (o_getf 12 24 (o_i (3) (o_i (16) (o_iload 1 (o_imul (o_iload 2 (o_iadd (o_imul (o_i (2) (o_iadd (o_iaload (o_istore 6 (o_iload 3 (o_aload 0 (o_getf 12 20 (o_i (0) (o_iaload (o_irem (o_iload 4 (o_ifne (o_iload 4 (o_i (1) (o_icne (o_iload 4 (o_i (2) (o_icne (o_iload 5 (sk_B (g, d, ck, sk, xX12_cellOf, Q) 78)) (o_iload 6 (o_ineg (sk_B (g, d, ck, sk, xX12_cellOf, Q) 78)))))) (o_iload 5 (o_ineg (sk_B (g, d, ck, sk, xX12_cellOf, Q) 78)))))) (o_iload 6 (sk_B (g, d, ck, sk, xX12_cellOf, Q) 78)))))))))))))))))))))))))))))))))))
set_option maxRecDepth 20000 in
theorem tX12_cellOf_0 {g : sk_G} {d ck sk : Nat} {Q : sk_P} : sk_S (g, d, ck, sk, xX12_cellOf, Q) 0 (kX12_cellOf_0 g d ck sk Q) := s_aload_n dX12_cellOf_0 rfl (s_getf (ci := 12) (j := 24) (C := RX12) (T := TX12) (N := 49) dX12_cellOf_1 rfl (by decide) (by decide) qf_X12_52 (s_iconst dX12_cellOf_4 (s_bipush dX12_cellOf_5 rfl (s_iload_n dX12_cellOf_7 rfl (s_imul dX12_cellOf_8 (s_iload_n dX12_cellOf_9 rfl (s_iadd dX12_cellOf_10 (s_imul dX12_cellOf_11 (s_iconst dX12_cellOf_12 (s_iadd dX12_cellOf_13 (s_iaload dX12_cellOf_14 (s_istore dX12_cellOf_15 (by decide : 5 < 9) (s_aload_n dX12_cellOf_17 rfl (s_getf (ci := 12) (j := 24) (C := RX12) (T := TX12) (N := 49) dX12_cellOf_18 rfl (by decide) (by decide) qf_X12_52 (s_iconst dX12_cellOf_21 (s_bipush dX12_cellOf_22 rfl (s_iload_n dX12_cellOf_24 rfl (s_imul dX12_cellOf_25 (s_iload_n dX12_cellOf_26 rfl (s_iadd dX12_cellOf_27 (s_imul dX12_cellOf_28 (s_iconst dX12_cellOf_29 (s_iadd dX12_cellOf_30 (s_iaload dX12_cellOf_31 (s_istore dX12_cellOf_32 (by decide : 6 < 9) (s_iload_n dX12_cellOf_34 rfl (s_aload_n dX12_cellOf_35 rfl (s_getf (ci := 12) (j := 20) (C := RX12) (T := TX12) (N := 49) dX12_cellOf_36 rfl (by decide) (by decide) qf_X12_46 (s_iconst dX12_cellOf_39 (s_iaload dX12_cellOf_40 (s_irem dX12_cellOf_41 (s_iload dX12_cellOf_42 (s_ifne (tgt := 52) dX12_cellOf_44 (by decide) (s_iload dX12_cellOf_52 (s_iconst dX12_cellOf_54 (s_icne (tgt := 64) dX12_cellOf_55 (by decide) (s_iload dX12_cellOf_64 (s_iconst dX12_cellOf_66 (s_icne (tgt := 76) dX12_cellOf_67 (by decide) (s_iload dX12_cellOf_76 (sk_id)) (s_iload dX12_cellOf_70 (s_ineg dX12_cellOf_72 (s_goto (tgt := 78) dX12_cellOf_73 (by decide) (sk_id))))))) (s_iload dX12_cellOf_58 (s_ineg dX12_cellOf_60 (s_goto (tgt := 78) dX12_cellOf_61 (by decide) (sk_id))))))) (s_iload dX12_cellOf_47 (s_goto (tgt := 78) dX12_cellOf_49 (by decide) (sk_id))))))))))))))))))))))))))))))))))))
set_option maxRecDepth 20000 in
def kX12_cellOf_78 (g : sk_G) (d ck sk : Nat) (Q : sk_P) : sk_K := o_iadd (o_istore 7 (o_iload 3 (o_aload 0 (o_getf 12 20 (o_i (0) (o_iaload (o_idiv (o_iload 4 (o_ifne (o_iload 4 (o_i (1) (o_icne (o_iload 4 (o_i (2) (o_icne (o_iload 6 (o_ineg (sk_B (g, d, ck, sk, xX12_cellOf, Q) 125))) (o_iload 5 (o_ineg (sk_B (g, d, ck, sk, xX12_cellOf, Q) 125)))))) (o_iload 6 (sk_B (g, d, ck, sk, xX12_cellOf, Q) 125))))) (o_iload 5 (sk_B (g, d, ck, sk, xX12_cellOf, Q) 125)))))))))))
set_option maxRecDepth 20000 in
theorem tX12_cellOf_78 {g : sk_G} {d ck sk : Nat} {Q : sk_P} : sk_S (g, d, ck, sk, xX12_cellOf, Q) 78 (kX12_cellOf_78 g d ck sk Q) := s_iadd dX12_cellOf_78 (s_istore dX12_cellOf_79 (by decide : 7 < 9) (s_iload_n dX12_cellOf_81 rfl (s_aload_n dX12_cellOf_82 rfl (s_getf (ci := 12) (j := 20) (C := RX12) (T := TX12) (N := 49) dX12_cellOf_83 rfl (by decide) (by decide) qf_X12_46 (s_iconst dX12_cellOf_86 (s_iaload dX12_cellOf_87 (s_idiv dX12_cellOf_88 (s_iload dX12_cellOf_89 (s_ifne (tgt := 99) dX12_cellOf_91 (by decide) (s_iload dX12_cellOf_99 (s_iconst dX12_cellOf_101 (s_icne (tgt := 110) dX12_cellOf_102 (by decide) (s_iload dX12_cellOf_110 (s_iconst dX12_cellOf_112 (s_icne (tgt := 122) dX12_cellOf_113 (by decide) (s_iload dX12_cellOf_122 (s_ineg dX12_cellOf_124 (sk_id))) (s_iload dX12_cellOf_116 (s_ineg dX12_cellOf_118 (s_goto (tgt := 125) dX12_cellOf_119 (by decide) (sk_id))))))) (s_iload dX12_cellOf_105 (s_goto (tgt := 125) dX12_cellOf_107 (by decide) (sk_id)))))) (s_iload dX12_cellOf_94 (s_goto (tgt := 125) dX12_cellOf_96 (by decide) (sk_id))))))))))))
set_option maxRecDepth 20000 in
def kX12_cellOf_125 (g : sk_G) (d ck sk : Nat) (Q : sk_P) : sk_K := o_iadd (o_istore 8 (o_iload 7 (o_i (0) (o_aload 0 (o_getf 12 20 (o_i (0) (o_iaload (o_i (1) (o_isub (o_stcT (g, d, ck, sk, xX12_cellOf, Q) 3 3 (fun Q => kX12_in_0 g (d - 1) 0 0 Q) (o_ifeq (o_i (-1) (o_iret (g, d, ck, sk, xX12_cellOf, Q))) (o_iload 8 (o_i (0) (o_aload 0 (o_getf 12 20 (o_i (1) (o_iaload (o_i (1) (o_isub (o_stcT (g, d, ck, sk, xX12_cellOf, Q) 3 3 (fun Q => kX12_in_0 g (d - 1) 0 0 Q) (o_ifeq (o_i (-1) (o_iret (g, d, ck, sk, xX12_cellOf, Q))) (o_aload 0 (o_getf 12 20 (o_i (0) (o_iaload (o_iload 8 (o_imul (o_iload 7 (o_iadd (o_iret (g, d, ck, sk, xX12_cellOf, Q)))))))))))))))))))))))))))))))
set_option maxRecDepth 20000 in
theorem tX12_cellOf_125 {g : sk_G} {d ck sk : Nat} {Q : sk_P} : sk_S (g, d, ck, sk, xX12_cellOf, Q) 125 (kX12_cellOf_125 g d ck sk Q) := s_iadd dX12_cellOf_125 (s_istore dX12_cellOf_126 (by decide : 8 < 9) (s_iload dX12_cellOf_128 (s_iconst dX12_cellOf_130 (s_aload_n dX12_cellOf_131 rfl (s_getf (ci := 12) (j := 20) (C := RX12) (T := TX12) (N := 49) dX12_cellOf_132 rfl (by decide) (by decide) qf_X12_46 (s_iconst dX12_cellOf_135 (s_iaload dX12_cellOf_136 (s_iconst dX12_cellOf_137 (s_isub dX12_cellOf_138 (s_stcT (X := xX12_in) (K := (fun Q => kX12_in_0 g (d - 1) 0 0 Q)) (fun _ => tX12_in_0) rfl dX12_cellOf_139 m_X12_in qm_X12_224 qs_X12_in (s_ifeq (tgt := 177) dX12_cellOf_142 (by decide) (s_iconst dX12_cellOf_177 (s_iret dX12_cellOf_178 rfl)) (s_iload dX12_cellOf_145 (s_iconst dX12_cellOf_147 (s_aload_n dX12_cellOf_148 rfl (s_getf (ci := 12) (j := 20) (C := RX12) (T := TX12) (N := 49) dX12_cellOf_149 rfl (by decide) (by decide) qf_X12_46 (s_iconst dX12_cellOf_152 (s_iaload dX12_cellOf_153 (s_iconst dX12_cellOf_154 (s_isub dX12_cellOf_155 (s_stcT (X := xX12_in) (K := (fun Q => kX12_in_0 g (d - 1) 0 0 Q)) (fun _ => tX12_in_0) rfl dX12_cellOf_156 m_X12_in qm_X12_224 qs_X12_in (s_ifeq (tgt := 177) dX12_cellOf_159 (by decide) (s_iconst dX12_cellOf_177 (s_iret dX12_cellOf_178 rfl)) (s_aload_n dX12_cellOf_162 rfl (s_getf (ci := 12) (j := 20) (C := RX12) (T := TX12) (N := 49) dX12_cellOf_163 rfl (by decide) (by decide) qf_X12_46 (s_iconst dX12_cellOf_166 (s_iaload dX12_cellOf_167 (s_iload dX12_cellOf_168 (s_imul dX12_cellOf_170 (s_iload dX12_cellOf_171 (s_iadd dX12_cellOf_173 (s_goto (tgt := 178) dX12_cellOf_174 (by decide) (s_iret dX12_cellOf_178 rfl)))))))))))))))))))))))))))))))
theorem dX12_lineMany_0 : decode cX12_lineMany 0 = .ok (.iconst 0, 1) := by decide +kernel
theorem dX12_lineMany_1 : decode cX12_lineMany 1 = .ok (.istore_n 2, 1) := by decide +kernel
theorem dX12_lineMany_2 : decode cX12_lineMany 2 = .ok (.iconst 0, 1) := by decide +kernel
theorem dX12_lineMany_3 : decode cX12_lineMany 3 = .ok (.istore_n 3, 1) := by decide +kernel
theorem dX12_lineMany_4 : decode cX12_lineMany 4 = .ok (.iload_n 3, 1) := by decide +kernel
theorem dX12_lineMany_5 : decode cX12_lineMany 5 = .ok (.iconst 4, 1) := by decide +kernel
theorem dX12_lineMany_6 : decode cX12_lineMany 6 = .ok (.if_icmp .ge 30, 3) := by decide +kernel
theorem dX12_lineMany_9 : decode cX12_lineMany 9 = .ok (.iload_n 2, 1) := by decide +kernel
theorem dX12_lineMany_10 : decode cX12_lineMany 10 = .ok (.aload_n 0, 1) := by decide +kernel
theorem dX12_lineMany_11 : decode cX12_lineMany 11 = .ok (.getfield 58, 3) := by decide +kernel
theorem dX12_lineMany_14 : decode cX12_lineMany 14 = .ok (.iconst 4, 1) := by decide +kernel
theorem dX12_lineMany_15 : decode cX12_lineMany 15 = .ok (.iload_n 1, 1) := by decide +kernel
theorem dX12_lineMany_16 : decode cX12_lineMany 16 = .ok (.imul, 1) := by decide +kernel
theorem dX12_lineMany_17 : decode cX12_lineMany 17 = .ok (.iload_n 3, 1) := by decide +kernel
theorem dX12_lineMany_18 : decode cX12_lineMany 18 = .ok (.iadd, 1) := by decide +kernel
theorem dX12_lineMany_19 : decode cX12_lineMany 19 = .ok (.iaload, 1) := by decide +kernel
theorem dX12_lineMany_20 : decode cX12_lineMany 20 = .ok (.ifCond .le 7, 3) := by decide +kernel
theorem dX12_lineMany_23 : decode cX12_lineMany 23 = .ok (.iconst 1, 1) := by decide +kernel
theorem dX12_lineMany_24 : decode cX12_lineMany 24 = .ok (.goto 4, 3) := by decide +kernel
theorem dX12_lineMany_27 : decode cX12_lineMany 27 = .ok (.iconst 0, 1) := by decide +kernel
theorem dX12_lineMany_28 : decode cX12_lineMany 28 = .ok (.iadd, 1) := by decide +kernel
theorem dX12_lineMany_29 : decode cX12_lineMany 29 = .ok (.istore_n 2, 1) := by decide +kernel
theorem dX12_lineMany_30 : decode cX12_lineMany 30 = .ok (.iinc 3 1, 3) := by decide +kernel
theorem dX12_lineMany_33 : decode cX12_lineMany 33 = .ok (.goto (-29), 3) := by decide +kernel
theorem dX12_lineMany_36 : decode cX12_lineMany 36 = .ok (.iload_n 2, 1) := by decide +kernel
theorem dX12_lineMany_37 : decode cX12_lineMany 37 = .ok (.ireturn, 1) := by decide +kernel
def kX12_lineMany_0 (g : sk_G) (d ck sk : Nat) (Q : sk_P) : sk_K := o_i (0) (o_istore 2 (o_i (0) (o_istore 3 (sk_B (g, d, ck, sk, xX12_lineMany, Q) 4))))
theorem tX12_lineMany_0 {g : sk_G} {d ck sk : Nat} {Q : sk_P} : sk_S (g, d, ck, sk, xX12_lineMany, Q) 0 (kX12_lineMany_0 g d ck sk Q) := s_iconst dX12_lineMany_0 (s_istore_n dX12_lineMany_1 rfl (by decide : 2 < 4) (s_iconst dX12_lineMany_2 (s_istore_n dX12_lineMany_3 rfl (by decide : 3 < 4) (sk_id))))
set_option maxRecDepth 20000 in
def kX12_lineMany_4 (g : sk_G) (d ck sk : Nat) (Q : sk_P) : sk_K := o_iload 3 (o_i (4) (o_icge (o_iload 2 (o_iret (g, d, ck, sk, xX12_lineMany, Q))) (o_iload 2 (o_aload 0 (o_getf 12 26 (o_i (4) (o_iload 1 (o_imul (o_iload 3 (o_iadd (o_iaload (o_ifle (o_i (0) (o_iadd (o_istore 2 (o_iinc 3 (1) (sk_B (g, d, ck, sk, xX12_lineMany, Q) 4))))) (o_i (1) (o_iadd (o_istore 2 (o_iinc 3 (1) (sk_B (g, d, ck, sk, xX12_lineMany, Q) 4)))))))))))))))))
set_option maxRecDepth 20000 in
theorem tX12_lineMany_4 {g : sk_G} {d ck sk : Nat} {Q : sk_P} : sk_S (g, d, ck, sk, xX12_lineMany, Q) 4 (kX12_lineMany_4 g d ck sk Q) := s_iload_n dX12_lineMany_4 rfl (s_iconst dX12_lineMany_5 (s_icge (tgt := 36) dX12_lineMany_6 (by decide) (s_iload_n dX12_lineMany_36 rfl (s_iret dX12_lineMany_37 rfl)) (s_iload_n dX12_lineMany_9 rfl (s_aload_n dX12_lineMany_10 rfl (s_getf (ci := 12) (j := 26) (C := RX12) (T := TX12) (N := 49) dX12_lineMany_11 rfl (by decide) (by decide) qf_X12_58 (s_iconst dX12_lineMany_14 (s_iload_n dX12_lineMany_15 rfl (s_imul dX12_lineMany_16 (s_iload_n dX12_lineMany_17 rfl (s_iadd dX12_lineMany_18 (s_iaload dX12_lineMany_19 (s_ifle (tgt := 27) dX12_lineMany_20 (by decide) (s_iconst dX12_lineMany_27 (s_iadd dX12_lineMany_28 (s_istore_n dX12_lineMany_29 rfl (by decide : 2 < 4) (s_iinc dX12_lineMany_30 (by decide : 3 < 4) (s_goto (tgt := 4) dX12_lineMany_33 (by decide) (sk_id)))))) (s_iconst dX12_lineMany_23 (s_goto (tgt := 28) dX12_lineMany_24 (by decide) (s_iadd dX12_lineMany_28 (s_istore_n dX12_lineMany_29 rfl (by decide : 2 < 4) (s_iinc dX12_lineMany_30 (by decide : 3 < 4) (s_goto (tgt := 4) dX12_lineMany_33 (by decide) (sk_id)))))))))))))))))))
theorem dX12_isFull_0 : decode cX12_isFull 0 = .ok (.iconst 0, 1) := by decide +kernel
theorem dX12_isFull_1 : decode cX12_isFull 1 = .ok (.istore 4, 2) := by decide +kernel
theorem dX12_isFull_3 : decode cX12_isFull 3 = .ok (.iload 4, 2) := by decide +kernel
theorem dX12_isFull_5 : decode cX12_isFull 5 = .ok (.aload_n 0, 1) := by decide +kernel
theorem dX12_isFull_6 : decode cX12_isFull 6 = .ok (.getfield 55, 3) := by decide +kernel
theorem dX12_isFull_9 : decode cX12_isFull 9 = .ok (.iload_n 1, 1) := by decide +kernel
theorem dX12_isFull_10 : decode cX12_isFull 10 = .ok (.iaload, 1) := by decide +kernel
theorem dX12_isFull_11 : decode cX12_isFull 11 = .ok (.if_icmp .ge 44, 3) := by decide +kernel
theorem dX12_isFull_14 : decode cX12_isFull 14 = .ok (.aload_n 0, 1) := by decide +kernel
theorem dX12_isFull_15 : decode cX12_isFull 15 = .ok (.iload_n 1, 1) := by decide +kernel
theorem dX12_isFull_16 : decode cX12_isFull 16 = .ok (.iload 4, 2) := by decide +kernel
theorem dX12_isFull_18 : decode cX12_isFull 18 = .ok (.invokevirtual 349, 3) := by decide +kernel
theorem dX12_isFull_21 : decode cX12_isFull 21 = .ok (.bipush 26, 2) := by decide +kernel
theorem dX12_isFull_23 : decode cX12_isFull 23 = .ok (.if_icmp .eq 26, 3) := by decide +kernel
theorem dX12_isFull_26 : decode cX12_isFull 26 = .ok (.aload_n 0, 1) := by decide +kernel
theorem dX12_isFull_27 : decode cX12_isFull 27 = .ok (.getfield 61, 3) := by decide +kernel
theorem dX12_isFull_30 : decode cX12_isFull 30 = .ok (.iconst 0, 1) := by decide +kernel
theorem dX12_isFull_31 : decode cX12_isFull 31 = .ok (.aload_n 0, 1) := by decide +kernel
theorem dX12_isFull_32 : decode cX12_isFull 32 = .ok (.iload_n 1, 1) := by decide +kernel
theorem dX12_isFull_33 : decode cX12_isFull 33 = .ok (.iload 4, 2) := by decide +kernel
theorem dX12_isFull_35 : decode cX12_isFull 35 = .ok (.iload_n 2, 1) := by decide +kernel
theorem dX12_isFull_36 : decode cX12_isFull 36 = .ok (.iload_n 3, 1) := by decide +kernel
theorem dX12_isFull_37 : decode cX12_isFull 37 = .ok (.invokevirtual 339, 3) := by decide +kernel
theorem dX12_isFull_40 : decode cX12_isFull 40 = .ok (.iadd, 1) := by decide +kernel
theorem dX12_isFull_41 : decode cX12_isFull 41 = .ok (.iaload, 1) := by decide +kernel
theorem dX12_isFull_42 : decode cX12_isFull 42 = .ok (.bipush 6, 2) := by decide +kernel
theorem dX12_isFull_44 : decode cX12_isFull 44 = .ok (.if_icmp .ne 5, 3) := by decide +kernel
theorem dX12_isFull_47 : decode cX12_isFull 47 = .ok (.iconst 1, 1) := by decide +kernel
theorem dX12_isFull_48 : decode cX12_isFull 48 = .ok (.ireturn, 1) := by decide +kernel
theorem dX12_isFull_49 : decode cX12_isFull 49 = .ok (.iinc 4 1, 3) := by decide +kernel
theorem dX12_isFull_52 : decode cX12_isFull 52 = .ok (.goto (-49), 3) := by decide +kernel
theorem dX12_isFull_55 : decode cX12_isFull 55 = .ok (.iconst 0, 1) := by decide +kernel
theorem dX12_isFull_56 : decode cX12_isFull 56 = .ok (.ireturn, 1) := by decide +kernel
def kX12_isFull_0 (g : sk_G) (d ck sk : Nat) (Q : sk_P) : sk_K := o_i (0) (o_istore 4 (sk_B (g, d, ck, sk, xX12_isFull, Q) 3))
theorem tX12_isFull_0 {g : sk_G} {d ck sk : Nat} {Q : sk_P} : sk_S (g, d, ck, sk, xX12_isFull, Q) 0 (kX12_isFull_0 g d ck sk Q) := s_iconst dX12_isFull_0 (s_istore dX12_isFull_1 (by decide : 4 < 5) (sk_id))
set_option maxRecDepth 20000 in
def kX12_isFull_3 (g : sk_G) (d ck sk : Nat) (Q : sk_P) : sk_K := o_iload 4 (o_aload 0 (o_getf 12 25 (o_iload 1 (o_iaload (o_icge (o_i (0) (o_zret (g, d, ck, sk, xX12_isFull, Q))) (o_aload 0 (o_iload 1 (o_iload 4 (o_invT (g, d, ck, sk, xX12_isFull, Q) 3 2 12 (fun Q => kX12_signOf_0 g (d - 1) 0 0 Q) (o_i (26) (o_iceq (o_iinc 4 (1) (sk_B (g, d, ck, sk, xX12_isFull, Q) 3)) (o_aload 0 (o_getf 12 28 (o_i (0) (o_aload 0 (o_iload 1 (o_iload 4 (o_iload 2 (o_iload 3 (o_invB (g, d, ck, sk, xX12_isFull, Q) xX12_cellOf 4 12 0 0 (o_iadd (o_iaload (o_i (6) (o_icne (o_iinc 4 (1) (sk_B (g, d, ck, sk, xX12_isFull, Q) 3)) (o_i (1) (o_zret (g, d, ck, sk, xX12_isFull, Q)))))))))))))))))))))))))))
set_option maxRecDepth 20000 in
theorem tX12_isFull_3 {g : sk_G} {d ck sk : Nat} {Q : sk_P} : sk_S (g, d, ck, sk, xX12_isFull, Q) 3 (kX12_isFull_3 g d ck sk Q) := s_iload dX12_isFull_3 (s_aload_n dX12_isFull_5 rfl (s_getf (ci := 12) (j := 25) (C := RX12) (T := TX12) (N := 49) dX12_isFull_6 rfl (by decide) (by decide) qf_X12_55 (s_iload_n dX12_isFull_9 rfl (s_iaload dX12_isFull_10 (s_icge (tgt := 55) dX12_isFull_11 (by decide) (s_iconst dX12_isFull_55 (s_zret dX12_isFull_56 rfl)) (s_aload_n dX12_isFull_14 rfl (s_iload_n dX12_isFull_15 rfl (s_iload dX12_isFull_16 (s_invT (X := xX12_signOf) (ci := 12) (T := TX12) (N := 49) (K := (fun Q => kX12_signOf_0 g (d - 1) 0 0 Q)) (fun _ => tX12_signOf_0) rfl dX12_isFull_18 m_X12_signOf rfl (by decide) qm_X12_349 qi_X12_signOf qe_X12_signOf (s_bipush dX12_isFull_21 rfl (s_iceq (tgt := 49) dX12_isFull_23 (by decide) (s_iinc dX12_isFull_49 (by decide : 4 < 5) (s_goto (tgt := 3) dX12_isFull_52 (by decide) (sk_id))) (s_aload_n dX12_isFull_26 rfl (s_getf (ci := 12) (j := 28) (C := RX12) (T := TX12) (N := 49) dX12_isFull_27 rfl (by decide) (by decide) qf_X12_61 (s_iconst dX12_isFull_30 (s_aload_n dX12_isFull_31 rfl (s_iload_n dX12_isFull_32 rfl (s_iload dX12_isFull_33 (s_iload_n dX12_isFull_35 rfl (s_iload_n dX12_isFull_36 rfl (s_invB (w' := (g, d, ck, sk, xX12_isFull, Q)) (ci := 12) (ck := 0) (sk := 0) (T := TX12) (N := 49) dX12_isFull_37 m_X12_cellOf rfl (by decide) qm_X12_339 qi_X12_cellOf qe_X12_cellOf rfl (s_iadd dX12_isFull_40 (s_iaload dX12_isFull_41 (s_bipush dX12_isFull_42 rfl (s_icne (tgt := 49) dX12_isFull_44 (by decide) (s_iinc dX12_isFull_49 (by decide : 4 < 5) (s_goto (tgt := 3) dX12_isFull_52 (by decide) (sk_id))) (s_iconst dX12_isFull_47 (s_zret dX12_isFull_48 rfl))))))))))))))))))))))))))
theorem dX12_keep_0 : decode cX12_keep 0 = .ok (.aload_n 0, 1) := by decide +kernel
theorem dX12_keep_1 : decode cX12_keep 1 = .ok (.getfield 279, 3) := by decide +kernel
theorem dX12_keep_4 : decode cX12_keep 4 = .ok (.bipush 40, 2) := by decide +kernel
theorem dX12_keep_6 : decode cX12_keep 6 = .ok (.if_icmp .ne 45, 3) := by decide +kernel
theorem dX12_keep_9 : decode cX12_keep 9 = .ok (.sipush 943, 3) := by decide +kernel
theorem dX12_keep_12 : decode cX12_keep 12 = .ok (.istore_n 1, 1) := by decide +kernel
theorem dX12_keep_13 : decode cX12_keep 13 = .ok (.iload_n 1, 1) := by decide +kernel
theorem dX12_keep_14 : decode cX12_keep 14 = .ok (.ldc 74, 2) := by decide +kernel
theorem dX12_keep_16 : decode cX12_keep 16 = .ok (.if_icmp .ge 25, 3) := by decide +kernel
theorem dX12_keep_19 : decode cX12_keep 19 = .ok (.aload_n 0, 1) := by decide +kernel
theorem dX12_keep_20 : decode cX12_keep 20 = .ok (.getfield 75, 3) := by decide +kernel
theorem dX12_keep_23 : decode cX12_keep 23 = .ok (.iload_n 1, 1) := by decide +kernel
theorem dX12_keep_24 : decode cX12_keep 24 = .ok (.sipush 943, 3) := by decide +kernel
theorem dX12_keep_27 : decode cX12_keep 27 = .ok (.isub, 1) := by decide +kernel
theorem dX12_keep_28 : decode cX12_keep 28 = .ok (.aload_n 0, 1) := by decide +kernel
theorem dX12_keep_29 : decode cX12_keep 29 = .ok (.getfield 75, 3) := by decide +kernel
theorem dX12_keep_32 : decode cX12_keep 32 = .ok (.iload_n 1, 1) := by decide +kernel
theorem dX12_keep_33 : decode cX12_keep 33 = .ok (.iaload, 1) := by decide +kernel
theorem dX12_keep_34 : decode cX12_keep 34 = .ok (.iastore, 1) := by decide +kernel
theorem dX12_keep_35 : decode cX12_keep 35 = .ok (.iinc 1 1, 3) := by decide +kernel
theorem dX12_keep_38 : decode cX12_keep 38 = .ok (.goto (-25), 3) := by decide +kernel
theorem dX12_keep_41 : decode cX12_keep 41 = .ok (.aload_n 0, 1) := by decide +kernel
theorem dX12_keep_42 : decode cX12_keep 42 = .ok (.dup, 1) := by decide +kernel
theorem dX12_keep_43 : decode cX12_keep 43 = .ok (.getfield 279, 3) := by decide +kernel
theorem dX12_keep_46 : decode cX12_keep 46 = .ok (.iconst 1, 1) := by decide +kernel
theorem dX12_keep_47 : decode cX12_keep 47 = .ok (.isub, 1) := by decide +kernel
theorem dX12_keep_48 : decode cX12_keep 48 = .ok (.putfield 279, 3) := by decide +kernel
theorem dX12_keep_51 : decode cX12_keep 51 = .ok (.iconst 0, 1) := by decide +kernel
theorem dX12_keep_52 : decode cX12_keep 52 = .ok (.istore_n 1, 1) := by decide +kernel
theorem dX12_keep_53 : decode cX12_keep 53 = .ok (.iload_n 1, 1) := by decide +kernel
theorem dX12_keep_54 : decode cX12_keep 54 = .ok (.sipush 943, 3) := by decide +kernel
theorem dX12_keep_57 : decode cX12_keep 57 = .ok (.if_icmp .ge 30, 3) := by decide +kernel
theorem dX12_keep_60 : decode cX12_keep 60 = .ok (.aload_n 0, 1) := by decide +kernel
theorem dX12_keep_61 : decode cX12_keep 61 = .ok (.getfield 75, 3) := by decide +kernel
theorem dX12_keep_64 : decode cX12_keep 64 = .ok (.sipush 943, 3) := by decide +kernel
theorem dX12_keep_67 : decode cX12_keep 67 = .ok (.aload_n 0, 1) := by decide +kernel
theorem dX12_keep_68 : decode cX12_keep 68 = .ok (.getfield 279, 3) := by decide +kernel
theorem dX12_keep_71 : decode cX12_keep 71 = .ok (.imul, 1) := by decide +kernel
theorem dX12_keep_72 : decode cX12_keep 72 = .ok (.iload_n 1, 1) := by decide +kernel
theorem dX12_keep_73 : decode cX12_keep 73 = .ok (.iadd, 1) := by decide +kernel
theorem dX12_keep_74 : decode cX12_keep 74 = .ok (.aload_n 0, 1) := by decide +kernel
theorem dX12_keep_75 : decode cX12_keep 75 = .ok (.getfield 61, 3) := by decide +kernel
theorem dX12_keep_78 : decode cX12_keep 78 = .ok (.iload_n 1, 1) := by decide +kernel
theorem dX12_keep_79 : decode cX12_keep 79 = .ok (.iaload, 1) := by decide +kernel
theorem dX12_keep_80 : decode cX12_keep 80 = .ok (.iastore, 1) := by decide +kernel
theorem dX12_keep_81 : decode cX12_keep 81 = .ok (.iinc 1 1, 3) := by decide +kernel
theorem dX12_keep_84 : decode cX12_keep 84 = .ok (.goto (-31), 3) := by decide +kernel
theorem dX12_keep_87 : decode cX12_keep 87 = .ok (.aload_n 0, 1) := by decide +kernel
theorem dX12_keep_88 : decode cX12_keep 88 = .ok (.dup, 1) := by decide +kernel
theorem dX12_keep_89 : decode cX12_keep 89 = .ok (.getfield 279, 3) := by decide +kernel
theorem dX12_keep_92 : decode cX12_keep 92 = .ok (.iconst 1, 1) := by decide +kernel
theorem dX12_keep_93 : decode cX12_keep 93 = .ok (.iadd, 1) := by decide +kernel
theorem dX12_keep_94 : decode cX12_keep 94 = .ok (.putfield 279, 3) := by decide +kernel
theorem dX12_keep_97 : decode cX12_keep 97 = .ok (.return_, 1) := by decide +kernel
def kX12_keep_0 (g : sk_G) (d ck sk : Nat) (Q : sk_P) : sk_K := o_aload 0 (o_getf 12 33 (o_i (40) (o_icne (o_i (0) (o_istore 1 (sk_B (g, d, ck, sk, xX12_keep, Q) 53))) (o_i (943) (o_istore 1 (sk_B (g, d, ck, sk, xX12_keep, Q) 13))))))
theorem tX12_keep_0 {g : sk_G} {d ck sk : Nat} {Q : sk_P} : sk_S (g, d, ck, sk, xX12_keep, Q) 0 (kX12_keep_0 g d ck sk Q) := s_aload_n dX12_keep_0 rfl (s_getf (ci := 12) (j := 33) (C := RX12) (T := TX12) (N := 49) dX12_keep_1 rfl (by decide) (by decide) qf_X12_279 (s_bipush dX12_keep_4 rfl (s_icne (tgt := 51) dX12_keep_6 (by decide) (s_iconst dX12_keep_51 (s_istore_n dX12_keep_52 rfl (by decide : 1 < 2) (sk_id))) (s_sipush dX12_keep_9 rfl (s_istore_n dX12_keep_12 rfl (by decide : 1 < 2) (sk_id))))))
set_option maxRecDepth 20000 in
def kX12_keep_13 (g : sk_G) (d ck sk : Nat) (Q : sk_P) : sk_K := o_iload 1 (o_i (37720) (o_icge (o_aload 0 (o_dup (o_getf 12 33 (o_i (1) (o_isub (o_puti 12 33 (o_i (0) (o_istore 1 (sk_B (g, d, ck, sk, xX12_keep, Q) 53))))))))) (o_aload 0 (o_getf 12 32 (o_iload 1 (o_i (943) (o_isub (o_aload 0 (o_getf 12 32 (o_iload 1 (o_iaload (o_iastore (o_iinc 1 (1) (sk_B (g, d, ck, sk, xX12_keep, Q) 13))))))))))))))
set_option maxRecDepth 20000 in
theorem tX12_keep_13 {g : sk_G} {d ck sk : Nat} {Q : sk_P} : sk_S (g, d, ck, sk, xX12_keep, Q) 13 (kX12_keep_13 g d ck sk Q) := s_iload_n dX12_keep_13 rfl (s_ldc dX12_keep_14 qk_X12_74 rfl (s_icge (tgt := 41) dX12_keep_16 (by decide) (s_aload_n dX12_keep_41 rfl (s_dup dX12_keep_42 (s_getf (ci := 12) (j := 33) (C := RX12) (T := TX12) (N := 49) dX12_keep_43 rfl (by decide) (by decide) qf_X12_279 (s_iconst dX12_keep_46 (s_isub dX12_keep_47 (s_puti (ci := 12) (j := 33) (C := RX12) (T := TX12) (N := 49) dX12_keep_48 rfl (by decide) (by decide) rfl (tyX12_ok 33 (by decide)) qf_X12_279 (s_iconst dX12_keep_51 (s_istore_n dX12_keep_52 rfl (by decide : 1 < 2) (sk_id))))))))) (s_aload_n dX12_keep_19 rfl (s_getf (ci := 12) (j := 32) (C := RX12) (T := TX12) (N := 49) dX12_keep_20 rfl (by decide) (by decide) qf_X12_75 (s_iload_n dX12_keep_23 rfl (s_sipush dX12_keep_24 rfl (s_isub dX12_keep_27 (s_aload_n dX12_keep_28 rfl (s_getf (ci := 12) (j := 32) (C := RX12) (T := TX12) (N := 49) dX12_keep_29 rfl (by decide) (by decide) qf_X12_75 (s_iload_n dX12_keep_32 rfl (s_iaload dX12_keep_33 (s_iastore dX12_keep_34 (s_iinc dX12_keep_35 (by decide : 1 < 2) (s_goto (tgt := 13) dX12_keep_38 (by decide) (sk_id)))))))))))))))
set_option maxRecDepth 20000 in
def kX12_keep_53 (g : sk_G) (d ck sk : Nat) (Q : sk_P) : sk_K := o_iload 1 (o_i (943) (o_icge (o_aload 0 (o_dup (o_getf 12 33 (o_i (1) (o_iadd (o_puti 12 33 (o_ret (g, d, ck, sk, xX12_keep, Q)))))))) (o_aload 0 (o_getf 12 32 (o_i (943) (o_aload 0 (o_getf 12 33 (o_imul (o_iload 1 (o_iadd (o_aload 0 (o_getf 12 28 (o_iload 1 (o_iaload (o_iastore (o_iinc 1 (1) (sk_B (g, d, ck, sk, xX12_keep, Q) 53)))))))))))))))))
set_option maxRecDepth 20000 in
theorem tX12_keep_53 {g : sk_G} {d ck sk : Nat} {Q : sk_P} : sk_S (g, d, ck, sk, xX12_keep, Q) 53 (kX12_keep_53 g d ck sk Q) := s_iload_n dX12_keep_53 rfl (s_sipush dX12_keep_54 rfl (s_icge (tgt := 87) dX12_keep_57 (by decide) (s_aload_n dX12_keep_87 rfl (s_dup dX12_keep_88 (s_getf (ci := 12) (j := 33) (C := RX12) (T := TX12) (N := 49) dX12_keep_89 rfl (by decide) (by decide) qf_X12_279 (s_iconst dX12_keep_92 (s_iadd dX12_keep_93 (s_puti (ci := 12) (j := 33) (C := RX12) (T := TX12) (N := 49) dX12_keep_94 rfl (by decide) (by decide) rfl (tyX12_ok 33 (by decide)) qf_X12_279 (s_ret dX12_keep_97 rfl))))))) (s_aload_n dX12_keep_60 rfl (s_getf (ci := 12) (j := 32) (C := RX12) (T := TX12) (N := 49) dX12_keep_61 rfl (by decide) (by decide) qf_X12_75 (s_sipush dX12_keep_64 rfl (s_aload_n dX12_keep_67 rfl (s_getf (ci := 12) (j := 33) (C := RX12) (T := TX12) (N := 49) dX12_keep_68 rfl (by decide) (by decide) qf_X12_279 (s_imul dX12_keep_71 (s_iload_n dX12_keep_72 rfl (s_iadd dX12_keep_73 (s_aload_n dX12_keep_74 rfl (s_getf (ci := 12) (j := 28) (C := RX12) (T := TX12) (N := 49) dX12_keep_75 rfl (by decide) (by decide) qf_X12_61 (s_iload_n dX12_keep_78 rfl (s_iaload dX12_keep_79 (s_iastore dX12_keep_80 (s_iinc dX12_keep_81 (by decide : 1 < 2) (s_goto (tgt := 53) dX12_keep_84 (by decide) (sk_id))))))))))))))))))
theorem dX12_writeNow_0 : decode cX12_writeNow 0 = .ok (.iconst 0, 1) := by decide +kernel
theorem dX12_writeNow_1 : decode cX12_writeNow 1 = .ok (.istore 5, 2) := by decide +kernel
theorem dX12_writeNow_3 : decode cX12_writeNow 3 = .ok (.iload 5, 2) := by decide +kernel
theorem dX12_writeNow_5 : decode cX12_writeNow 5 = .ok (.aload_n 0, 1) := by decide +kernel
theorem dX12_writeNow_6 : decode cX12_writeNow 6 = .ok (.getfield 55, 3) := by decide +kernel
theorem dX12_writeNow_9 : decode cX12_writeNow 9 = .ok (.iload_n 1, 1) := by decide +kernel
theorem dX12_writeNow_10 : decode cX12_writeNow 10 = .ok (.iaload, 1) := by decide +kernel
theorem dX12_writeNow_11 : decode cX12_writeNow 11 = .ok (.if_icmp .ge 102, 3) := by decide +kernel
theorem dX12_writeNow_14 : decode cX12_writeNow 14 = .ok (.aload_n 0, 1) := by decide +kernel
theorem dX12_writeNow_15 : decode cX12_writeNow 15 = .ok (.iload_n 1, 1) := by decide +kernel
theorem dX12_writeNow_16 : decode cX12_writeNow 16 = .ok (.iload 5, 2) := by decide +kernel
theorem dX12_writeNow_18 : decode cX12_writeNow 18 = .ok (.invokevirtual 349, 3) := by decide +kernel
theorem dX12_writeNow_21 : decode cX12_writeNow 21 = .ok (.bipush 26, 2) := by decide +kernel
theorem dX12_writeNow_23 : decode cX12_writeNow 23 = .ok (.if_icmp .eq 84, 3) := by decide +kernel
theorem dX12_writeNow_26 : decode cX12_writeNow 26 = .ok (.aload_n 0, 1) := by decide +kernel
theorem dX12_writeNow_27 : decode cX12_writeNow 27 = .ok (.iload_n 1, 1) := by decide +kernel
theorem dX12_writeNow_28 : decode cX12_writeNow 28 = .ok (.iload 5, 2) := by decide +kernel
theorem dX12_writeNow_30 : decode cX12_writeNow 30 = .ok (.iload_n 3, 1) := by decide +kernel
theorem dX12_writeNow_31 : decode cX12_writeNow 31 = .ok (.iload 4, 2) := by decide +kernel
theorem dX12_writeNow_33 : decode cX12_writeNow 33 = .ok (.invokevirtual 339, 3) := by decide +kernel
theorem dX12_writeNow_36 : decode cX12_writeNow 36 = .ok (.istore 6, 2) := by decide +kernel
theorem dX12_writeNow_38 : decode cX12_writeNow 38 = .ok (.aload_n 0, 1) := by decide +kernel
theorem dX12_writeNow_39 : decode cX12_writeNow 39 = .ok (.getfield 61, 3) := by decide +kernel
theorem dX12_writeNow_42 : decode cX12_writeNow 42 = .ok (.iconst 0, 1) := by decide +kernel
theorem dX12_writeNow_43 : decode cX12_writeNow 43 = .ok (.iload 6, 2) := by decide +kernel
theorem dX12_writeNow_45 : decode cX12_writeNow 45 = .ok (.iadd, 1) := by decide +kernel
theorem dX12_writeNow_46 : decode cX12_writeNow 46 = .ok (.iaload, 1) := by decide +kernel
theorem dX12_writeNow_47 : decode cX12_writeNow 47 = .ok (.istore 7, 2) := by decide +kernel
theorem dX12_writeNow_49 : decode cX12_writeNow 49 = .ok (.aload_n 0, 1) := by decide +kernel
theorem dX12_writeNow_50 : decode cX12_writeNow 50 = .ok (.iload 6, 2) := by decide +kernel
theorem dX12_writeNow_52 : decode cX12_writeNow 52 = .ok (.iload 7, 2) := by decide +kernel
theorem dX12_writeNow_54 : decode cX12_writeNow 54 = .ok (.iconst 0, 1) := by decide +kernel
theorem dX12_writeNow_55 : decode cX12_writeNow 55 = .ok (.aload_n 0, 1) := by decide +kernel
theorem dX12_writeNow_56 : decode cX12_writeNow 56 = .ok (.iload_n 1, 1) := by decide +kernel
theorem dX12_writeNow_57 : decode cX12_writeNow 57 = .ok (.iload 5, 2) := by decide +kernel
theorem dX12_writeNow_59 : decode cX12_writeNow 59 = .ok (.invokevirtual 349, 3) := by decide +kernel
theorem dX12_writeNow_62 : decode cX12_writeNow 62 = .ok (.invokevirtual 310, 3) := by decide +kernel
theorem dX12_writeNow_65 : decode cX12_writeNow 65 = .ok (.aload_n 0, 1) := by decide +kernel
theorem dX12_writeNow_66 : decode cX12_writeNow 66 = .ok (.iload 6, 2) := by decide +kernel
theorem dX12_writeNow_68 : decode cX12_writeNow 68 = .ok (.iload 7, 2) := by decide +kernel
theorem dX12_writeNow_70 : decode cX12_writeNow 70 = .ok (.iconst 1, 1) := by decide +kernel
theorem dX12_writeNow_71 : decode cX12_writeNow 71 = .ok (.iload_n 2, 1) := by decide +kernel
theorem dX12_writeNow_72 : decode cX12_writeNow 72 = .ok (.invokevirtual 310, 3) := by decide +kernel
theorem dX12_writeNow_75 : decode cX12_writeNow 75 = .ok (.aload_n 0, 1) := by decide +kernel
theorem dX12_writeNow_76 : decode cX12_writeNow 76 = .ok (.iload 6, 2) := by decide +kernel
theorem dX12_writeNow_78 : decode cX12_writeNow 78 = .ok (.iload 7, 2) := by decide +kernel
theorem dX12_writeNow_80 : decode cX12_writeNow 80 = .ok (.iconst 2, 1) := by decide +kernel
theorem dX12_writeNow_81 : decode cX12_writeNow 81 = .ok (.aload_n 0, 1) := by decide +kernel
theorem dX12_writeNow_82 : decode cX12_writeNow 82 = .ok (.getfield 49, 3) := by decide +kernel
theorem dX12_writeNow_85 : decode cX12_writeNow 85 = .ok (.iconst 2, 1) := by decide +kernel
theorem dX12_writeNow_86 : decode cX12_writeNow 86 = .ok (.iload_n 2, 1) := by decide +kernel
theorem dX12_writeNow_87 : decode cX12_writeNow 87 = .ok (.imul, 1) := by decide +kernel
theorem dX12_writeNow_88 : decode cX12_writeNow 88 = .ok (.iconst 0, 1) := by decide +kernel
theorem dX12_writeNow_89 : decode cX12_writeNow 89 = .ok (.iadd, 1) := by decide +kernel
theorem dX12_writeNow_90 : decode cX12_writeNow 90 = .ok (.iaload, 1) := by decide +kernel
theorem dX12_writeNow_91 : decode cX12_writeNow 91 = .ok (.invokevirtual 310, 3) := by decide +kernel
theorem dX12_writeNow_94 : decode cX12_writeNow 94 = .ok (.aload_n 0, 1) := by decide +kernel
theorem dX12_writeNow_95 : decode cX12_writeNow 95 = .ok (.getfield 61, 3) := by decide +kernel
theorem dX12_writeNow_98 : decode cX12_writeNow 98 = .ok (.iconst 0, 1) := by decide +kernel
theorem dX12_writeNow_99 : decode cX12_writeNow 99 = .ok (.iload 6, 2) := by decide +kernel
theorem dX12_writeNow_101 : decode cX12_writeNow 101 = .ok (.iadd, 1) := by decide +kernel
theorem dX12_writeNow_102 : decode cX12_writeNow 102 = .ok (.dup2, 1) := by decide +kernel
theorem dX12_writeNow_103 : decode cX12_writeNow 103 = .ok (.iaload, 1) := by decide +kernel
theorem dX12_writeNow_104 : decode cX12_writeNow 104 = .ok (.iconst 1, 1) := by decide +kernel
theorem dX12_writeNow_105 : decode cX12_writeNow 105 = .ok (.iadd, 1) := by decide +kernel
theorem dX12_writeNow_106 : decode cX12_writeNow 106 = .ok (.iastore, 1) := by decide +kernel
theorem dX12_writeNow_107 : decode cX12_writeNow 107 = .ok (.iinc 5 1, 3) := by decide +kernel
theorem dX12_writeNow_110 : decode cX12_writeNow 110 = .ok (.goto (-107), 3) := by decide +kernel
theorem dX12_writeNow_113 : decode cX12_writeNow 113 = .ok (.return_, 1) := by decide +kernel
def kX12_writeNow_0 (g : sk_G) (d ck sk : Nat) (Q : sk_P) : sk_K := o_i (0) (o_istore 5 (sk_B (g, d, ck, sk, xX12_writeNow, Q) 3))
theorem tX12_writeNow_0 {g : sk_G} {d ck sk : Nat} {Q : sk_P} : sk_S (g, d, ck, sk, xX12_writeNow, Q) 0 (kX12_writeNow_0 g d ck sk Q) := s_iconst dX12_writeNow_0 (s_istore dX12_writeNow_1 (by decide : 5 < 8) (sk_id))
set_option maxRecDepth 20000 in
def kX12_writeNow_3 (g : sk_G) (d ck sk : Nat) (Q : sk_P) : sk_K := o_iload 5 (o_aload 0 (o_getf 12 25 (o_iload 1 (o_iaload (o_icge (o_ret (g, d, ck, sk, xX12_writeNow, Q)) (o_aload 0 (o_iload 1 (o_iload 5 (o_invT (g, d, ck, sk, xX12_writeNow, Q) 3 2 12 (fun Q => kX12_signOf_0 g (d - 1) 0 0 Q) (o_i (26) (o_iceq (o_iinc 5 (1) (sk_B (g, d, ck, sk, xX12_writeNow, Q) 3)) (o_aload 0 (o_iload 1 (o_iload 5 (o_iload 3 (o_iload 4 (o_invB (g, d, ck, sk, xX12_writeNow, Q) xX12_cellOf 4 12 0 0 (o_istore 6 (o_aload 0 (o_getf 12 28 (o_i (0) (o_iload 6 (o_iadd (o_iaload (o_istore 7 (o_aload 0 (o_iload 6 (o_iload 7 (o_i (0) (o_aload 0 (o_iload 1 (o_iload 5 (o_invT (g, d, ck, sk, xX12_writeNow, Q) 3 2 12 (fun Q => kX12_signOf_0 g (d - 1) 0 0 Q) (o_invT (g, d, ck, sk, xX12_writeNow, Q) 5 4 12 (fun Q => kX12_setOf_0 g (d - 1) 0 0 Q) (o_aload 0 (o_iload 6 (o_iload 7 (o_i (1) (o_iload 2 (o_invT (g, d, ck, sk, xX12_writeNow, Q) 5 4 12 (fun Q => kX12_setOf_0 g (d - 1) 0 0 Q) (o_aload 0 (o_iload 6 (o_iload 7 (o_i (2) (o_aload 0 (o_getf 12 21 (o_i (2) (o_iload 2 (o_imul (o_i (0) (o_iadd (o_iaload (o_invT (g, d, ck, sk, xX12_writeNow, Q) 5 4 12 (fun Q => kX12_setOf_0 g (d - 1) 0 0 Q) (o_aload 0 (o_getf 12 28 (o_i (0) (o_iload 6 (o_iadd (o_dup2 (o_iaload (o_i (1) (o_iadd (o_iastore (o_iinc 5 (1) (sk_B (g, d, ck, sk, xX12_writeNow, Q) 3)))))))))))))))))))))))))))))))))))))))))))))))))))))))))))))))))
set_option maxRecDepth 20000 in
theorem tX12_writeNow_3 {g : sk_G} {d ck sk : Nat} {Q : sk_P} : sk_S (g, d, ck, sk, xX12_writeNow, Q) 3 (kX12_writeNow_3 g d ck sk Q) := s_iload dX12_writeNow_3 (s_aload_n dX12_writeNow_5 rfl (s_getf (ci := 12) (j := 25) (C := RX12) (T := TX12) (N := 49) dX12_writeNow_6 rfl (by decide) (by decide) qf_X12_55 (s_iload_n dX12_writeNow_9 rfl (s_iaload dX12_writeNow_10 (s_icge (tgt := 113) dX12_writeNow_11 (by decide) (s_ret dX12_writeNow_113 rfl) (s_aload_n dX12_writeNow_14 rfl (s_iload_n dX12_writeNow_15 rfl (s_iload dX12_writeNow_16 (s_invT (X := xX12_signOf) (ci := 12) (T := TX12) (N := 49) (K := (fun Q => kX12_signOf_0 g (d - 1) 0 0 Q)) (fun _ => tX12_signOf_0) rfl dX12_writeNow_18 m_X12_signOf rfl (by decide) qm_X12_349 qi_X12_signOf qe_X12_signOf (s_bipush dX12_writeNow_21 rfl (s_iceq (tgt := 107) dX12_writeNow_23 (by decide) (s_iinc dX12_writeNow_107 (by decide : 5 < 8) (s_goto (tgt := 3) dX12_writeNow_110 (by decide) (sk_id))) (s_aload_n dX12_writeNow_26 rfl (s_iload_n dX12_writeNow_27 rfl (s_iload dX12_writeNow_28 (s_iload_n dX12_writeNow_30 rfl (s_iload dX12_writeNow_31 (s_invB (w' := (g, d, ck, sk, xX12_writeNow, Q)) (ci := 12) (ck := 0) (sk := 0) (T := TX12) (N := 49) dX12_writeNow_33 m_X12_cellOf rfl (by decide) qm_X12_339 qi_X12_cellOf qe_X12_cellOf rfl (s_istore dX12_writeNow_36 (by decide : 6 < 8) (s_aload_n dX12_writeNow_38 rfl (s_getf (ci := 12) (j := 28) (C := RX12) (T := TX12) (N := 49) dX12_writeNow_39 rfl (by decide) (by decide) qf_X12_61 (s_iconst dX12_writeNow_42 (s_iload dX12_writeNow_43 (s_iadd dX12_writeNow_45 (s_iaload dX12_writeNow_46 (s_istore dX12_writeNow_47 (by decide : 7 < 8) (s_aload_n dX12_writeNow_49 rfl (s_iload dX12_writeNow_50 (s_iload dX12_writeNow_52 (s_iconst dX12_writeNow_54 (s_aload_n dX12_writeNow_55 rfl (s_iload_n dX12_writeNow_56 rfl (s_iload dX12_writeNow_57 (s_invT (X := xX12_signOf) (ci := 12) (T := TX12) (N := 49) (K := (fun Q => kX12_signOf_0 g (d - 1) 0 0 Q)) (fun _ => tX12_signOf_0) rfl dX12_writeNow_59 m_X12_signOf rfl (by decide) qm_X12_349 qi_X12_signOf qe_X12_signOf (s_invT (X := xX12_setOf) (ci := 12) (T := TX12) (N := 49) (K := (fun Q => kX12_setOf_0 g (d - 1) 0 0 Q)) (fun _ => tX12_setOf_0) rfl dX12_writeNow_62 m_X12_setOf rfl (by decide) qm_X12_310 qi_X12_setOf qe_X12_setOf (s_aload_n dX12_writeNow_65 rfl (s_iload dX12_writeNow_66 (s_iload dX12_writeNow_68 (s_iconst dX12_writeNow_70 (s_iload_n dX12_writeNow_71 rfl (s_invT (X := xX12_setOf) (ci := 12) (T := TX12) (N := 49) (K := (fun Q => kX12_setOf_0 g (d - 1) 0 0 Q)) (fun _ => tX12_setOf_0) rfl dX12_writeNow_72 m_X12_setOf rfl (by decide) qm_X12_310 qi_X12_setOf qe_X12_setOf (s_aload_n dX12_writeNow_75 rfl (s_iload dX12_writeNow_76 (s_iload dX12_writeNow_78 (s_iconst dX12_writeNow_80 (s_aload_n dX12_writeNow_81 rfl (s_getf (ci := 12) (j := 21) (C := RX12) (T := TX12) (N := 49) dX12_writeNow_82 rfl (by decide) (by decide) qf_X12_49 (s_iconst dX12_writeNow_85 (s_iload_n dX12_writeNow_86 rfl (s_imul dX12_writeNow_87 (s_iconst dX12_writeNow_88 (s_iadd dX12_writeNow_89 (s_iaload dX12_writeNow_90 (s_invT (X := xX12_setOf) (ci := 12) (T := TX12) (N := 49) (K := (fun Q => kX12_setOf_0 g (d - 1) 0 0 Q)) (fun _ => tX12_setOf_0) rfl dX12_writeNow_91 m_X12_setOf rfl (by decide) qm_X12_310 qi_X12_setOf qe_X12_setOf (s_aload_n dX12_writeNow_94 rfl (s_getf (ci := 12) (j := 28) (C := RX12) (T := TX12) (N := 49) dX12_writeNow_95 rfl (by decide) (by decide) qf_X12_61 (s_iconst dX12_writeNow_98 (s_iload dX12_writeNow_99 (s_iadd dX12_writeNow_101 (s_dup2 dX12_writeNow_102 (s_iaload dX12_writeNow_103 (s_iconst dX12_writeNow_104 (s_iadd dX12_writeNow_105 (s_iastore dX12_writeNow_106 (s_iinc dX12_writeNow_107 (by decide : 5 < 8) (s_goto (tgt := 3) dX12_writeNow_110 (by decide) (sk_id))))))))))))))))))))))))))))))))))))))))))))))))))))))))))))))))))
theorem dX12_layerAll_0 : decode cX12_layerAll 0 = .ok (.iconst 0, 1) := by decide +kernel
theorem dX12_layerAll_1 : decode cX12_layerAll 1 = .ok (.istore_n 1, 1) := by decide +kernel
theorem dX12_layerAll_2 : decode cX12_layerAll 2 = .ok (.iconst 0, 1) := by decide +kernel
theorem dX12_layerAll_3 : decode cX12_layerAll 3 = .ok (.istore_n 2, 1) := by decide +kernel
theorem dX12_layerAll_4 : decode cX12_layerAll 4 = .ok (.iload_n 2, 1) := by decide +kernel
theorem dX12_layerAll_5 : decode cX12_layerAll 5 = .ok (.aload_n 0, 1) := by decide +kernel
theorem dX12_layerAll_6 : decode cX12_layerAll 6 = .ok (.getfield 273, 3) := by decide +kernel
theorem dX12_layerAll_9 : decode cX12_layerAll 9 = .ok (.if_icmp .ge 20, 3) := by decide +kernel
theorem dX12_layerAll_12 : decode cX12_layerAll 12 = .ok (.iload_n 1, 1) := by decide +kernel
theorem dX12_layerAll_13 : decode cX12_layerAll 13 = .ok (.aload_n 0, 1) := by decide +kernel
theorem dX12_layerAll_14 : decode cX12_layerAll 14 = .ok (.getfield 61, 3) := by decide +kernel
theorem dX12_layerAll_17 : decode cX12_layerAll 17 = .ok (.iconst 0, 1) := by decide +kernel
theorem dX12_layerAll_18 : decode cX12_layerAll 18 = .ok (.iload_n 2, 1) := by decide +kernel
theorem dX12_layerAll_19 : decode cX12_layerAll 19 = .ok (.iadd, 1) := by decide +kernel
theorem dX12_layerAll_20 : decode cX12_layerAll 20 = .ok (.iaload, 1) := by decide +kernel
theorem dX12_layerAll_21 : decode cX12_layerAll 21 = .ok (.iadd, 1) := by decide +kernel
theorem dX12_layerAll_22 : decode cX12_layerAll 22 = .ok (.istore_n 1, 1) := by decide +kernel
theorem dX12_layerAll_23 : decode cX12_layerAll 23 = .ok (.iinc 2 1, 3) := by decide +kernel
theorem dX12_layerAll_26 : decode cX12_layerAll 26 = .ok (.goto (-22), 3) := by decide +kernel
theorem dX12_layerAll_29 : decode cX12_layerAll 29 = .ok (.iload_n 1, 1) := by decide +kernel
theorem dX12_layerAll_30 : decode cX12_layerAll 30 = .ok (.ireturn, 1) := by decide +kernel
def kX12_layerAll_0 (g : sk_G) (d ck sk : Nat) (Q : sk_P) : sk_K := o_i (0) (o_istore 1 (o_i (0) (o_istore 2 (sk_B (g, d, ck, sk, xX12_layerAll, Q) 4))))
theorem tX12_layerAll_0 {g : sk_G} {d ck sk : Nat} {Q : sk_P} : sk_S (g, d, ck, sk, xX12_layerAll, Q) 0 (kX12_layerAll_0 g d ck sk Q) := s_iconst dX12_layerAll_0 (s_istore_n dX12_layerAll_1 rfl (by decide : 1 < 3) (s_iconst dX12_layerAll_2 (s_istore_n dX12_layerAll_3 rfl (by decide : 2 < 3) (sk_id))))
set_option maxRecDepth 20000 in
def kX12_layerAll_4 (g : sk_G) (d ck sk : Nat) (Q : sk_P) : sk_K := o_iload 2 (o_aload 0 (o_getf 12 23 (o_icge (o_iload 1 (o_iret (g, d, ck, sk, xX12_layerAll, Q))) (o_iload 1 (o_aload 0 (o_getf 12 28 (o_i (0) (o_iload 2 (o_iadd (o_iaload (o_iadd (o_istore 1 (o_iinc 2 (1) (sk_B (g, d, ck, sk, xX12_layerAll, Q) 4))))))))))))))
set_option maxRecDepth 20000 in
theorem tX12_layerAll_4 {g : sk_G} {d ck sk : Nat} {Q : sk_P} : sk_S (g, d, ck, sk, xX12_layerAll, Q) 4 (kX12_layerAll_4 g d ck sk Q) := s_iload_n dX12_layerAll_4 rfl (s_aload_n dX12_layerAll_5 rfl (s_getf (ci := 12) (j := 23) (C := RX12) (T := TX12) (N := 49) dX12_layerAll_6 rfl (by decide) (by decide) qf_X12_273 (s_icge (tgt := 29) dX12_layerAll_9 (by decide) (s_iload_n dX12_layerAll_29 rfl (s_iret dX12_layerAll_30 rfl)) (s_iload_n dX12_layerAll_12 rfl (s_aload_n dX12_layerAll_13 rfl (s_getf (ci := 12) (j := 28) (C := RX12) (T := TX12) (N := 49) dX12_layerAll_14 rfl (by decide) (by decide) qf_X12_61 (s_iconst dX12_layerAll_17 (s_iload_n dX12_layerAll_18 rfl (s_iadd dX12_layerAll_19 (s_iaload dX12_layerAll_20 (s_iadd dX12_layerAll_21 (s_istore_n dX12_layerAll_22 rfl (by decide : 1 < 3) (s_iinc dX12_layerAll_23 (by decide : 2 < 3) (s_goto (tgt := 4) dX12_layerAll_26 (by decide) (sk_id)))))))))))))))
theorem dX12_scrape_0 : decode cX12_scrape 0 = .ok (.aload_n 0, 1) := by decide +kernel
theorem dX12_scrape_1 : decode cX12_scrape 1 = .ok (.aload_n 0, 1) := by decide +kernel
theorem dX12_scrape_2 : decode cX12_scrape 2 = .ok (.getfield 273, 3) := by decide +kernel
theorem dX12_scrape_5 : decode cX12_scrape 5 = .ok (.ifCond .ne 7, 3) := by decide +kernel
theorem dX12_scrape_8 : decode cX12_scrape 8 = .ok (.iconst 0, 1) := by decide +kernel
theorem dX12_scrape_9 : decode cX12_scrape 9 = .ok (.goto 54, 3) := by decide +kernel
theorem dX12_scrape_12 : decode cX12_scrape 12 = .ok (.aload_n 0, 1) := by decide +kernel
theorem dX12_scrape_13 : decode cX12_scrape 13 = .ok (.iload_n 1, 1) := by decide +kernel
theorem dX12_scrape_14 : decode cX12_scrape 14 = .ok (.invokevirtual 376, 3) := by decide +kernel
theorem dX12_scrape_17 : decode cX12_scrape 17 = .ok (.ifCond .eq 13, 3) := by decide +kernel
theorem dX12_scrape_20 : decode cX12_scrape 20 = .ok (.iload_n 2, 1) := by decide +kernel
theorem dX12_scrape_21 : decode cX12_scrape 21 = .ok (.iconst 1, 1) := by decide +kernel
theorem dX12_scrape_22 : decode cX12_scrape 22 = .ok (.bipush 9, 2) := by decide +kernel
theorem dX12_scrape_24 : decode cX12_scrape 24 = .ok (.invokestatic 224, 3) := by decide +kernel
theorem dX12_scrape_27 : decode cX12_scrape 27 = .ok (.ifCond .ne 7, 3) := by decide +kernel
theorem dX12_scrape_30 : decode cX12_scrape 30 = .ok (.iconst 1, 1) := by decide +kernel
theorem dX12_scrape_31 : decode cX12_scrape 31 = .ok (.goto 32, 3) := by decide +kernel
theorem dX12_scrape_34 : decode cX12_scrape 34 = .ok (.aload_n 0, 1) := by decide +kernel
theorem dX12_scrape_35 : decode cX12_scrape 35 = .ok (.iload_n 1, 1) := by decide +kernel
theorem dX12_scrape_36 : decode cX12_scrape 36 = .ok (.invokevirtual 379, 3) := by decide +kernel
theorem dX12_scrape_39 : decode cX12_scrape 39 = .ok (.ifCond .ne 7, 3) := by decide +kernel
theorem dX12_scrape_42 : decode cX12_scrape 42 = .ok (.iconst 2, 1) := by decide +kernel
theorem dX12_scrape_43 : decode cX12_scrape 43 = .ok (.goto 20, 3) := by decide +kernel
theorem dX12_scrape_46 : decode cX12_scrape 46 = .ok (.aload_n 0, 1) := by decide +kernel
theorem dX12_scrape_47 : decode cX12_scrape 47 = .ok (.getfield 61, 3) := by decide +kernel
theorem dX12_scrape_50 : decode cX12_scrape 50 = .ok (.sipush 760, 3) := by decide +kernel
theorem dX12_scrape_53 : decode cX12_scrape 53 = .ok (.iaload, 1) := by decide +kernel
theorem dX12_scrape_54 : decode cX12_scrape 54 = .ok (.iconst 1, 1) := by decide +kernel
theorem dX12_scrape_55 : decode cX12_scrape 55 = .ok (.if_icmp .ge 7, 3) := by decide +kernel
theorem dX12_scrape_58 : decode cX12_scrape 58 = .ok (.iconst 3, 1) := by decide +kernel
theorem dX12_scrape_59 : decode cX12_scrape 59 = .ok (.goto 4, 3) := by decide +kernel
theorem dX12_scrape_62 : decode cX12_scrape 62 = .ok (.iconst (-1), 1) := by decide +kernel
theorem dX12_scrape_63 : decode cX12_scrape 63 = .ok (.invokevirtual 364, 3) := by decide +kernel
theorem dX12_scrape_66 : decode cX12_scrape 66 = .ok (.ifCond .eq 5, 3) := by decide +kernel
theorem dX12_scrape_69 : decode cX12_scrape 69 = .ok (.iconst (-1), 1) := by decide +kernel
theorem dX12_scrape_70 : decode cX12_scrape 70 = .ok (.ireturn, 1) := by decide +kernel
theorem dX12_scrape_71 : decode cX12_scrape 71 = .ok (.aload_n 0, 1) := by decide +kernel
theorem dX12_scrape_72 : decode cX12_scrape 72 = .ok (.invokevirtual 367, 3) := by decide +kernel
theorem dX12_scrape_75 : decode cX12_scrape 75 = .ok (.aload_n 0, 1) := by decide +kernel
theorem dX12_scrape_76 : decode cX12_scrape 76 = .ok (.getfield 61, 3) := by decide +kernel
theorem dX12_scrape_79 : decode cX12_scrape 79 = .ok (.sipush 760, 3) := by decide +kernel
theorem dX12_scrape_82 : decode cX12_scrape 82 = .ok (.dup2, 1) := by decide +kernel
theorem dX12_scrape_83 : decode cX12_scrape 83 = .ok (.iaload, 1) := by decide +kernel
theorem dX12_scrape_84 : decode cX12_scrape 84 = .ok (.iconst 1, 1) := by decide +kernel
theorem dX12_scrape_85 : decode cX12_scrape 85 = .ok (.isub, 1) := by decide +kernel
theorem dX12_scrape_86 : decode cX12_scrape 86 = .ok (.iastore, 1) := by decide +kernel
theorem dX12_scrape_87 : decode cX12_scrape 87 = .ok (.aload_n 0, 1) := by decide +kernel
theorem dX12_scrape_88 : decode cX12_scrape 88 = .ok (.iload_n 1, 1) := by decide +kernel
theorem dX12_scrape_89 : decode cX12_scrape 89 = .ok (.iload_n 2, 1) := by decide +kernel
theorem dX12_scrape_90 : decode cX12_scrape 90 = .ok (.invokevirtual 382, 3) := by decide +kernel
theorem dX12_scrape_93 : decode cX12_scrape 93 = .ok (.ireturn, 1) := by decide +kernel
set_option maxRecDepth 20000 in
def kX12_scrape_0 (g : sk_G) (d ck sk : Nat) (Q : sk_P) : sk_K := o_aload 0 (o_aload 0 (o_getf 12 23 (o_ifne (o_aload 0 (o_iload 1 (o_invT (g, d, ck, sk, xX12_scrape, Q) 2 1 12 (fun Q => kX12_isRow_0 g (d - 1) 0 0 Q) (o_ifeq (o_i (1) (sk_B (g, d, ck, sk, xX12_scrape, Q) 63)) (o_iload 2 (o_i (1) (o_i (9) (o_stcT (g, d, ck, sk, xX12_scrape, Q) 3 3 (fun Q => kX12_in_0 g (d - 1) 0 0 Q) (o_ifne (o_aload 0 (o_iload 1 (o_invB (g, d, ck, sk, xX12_scrape, Q) xX12_layersOf 1 12 0 0 (o_ifne (o_aload 0 (o_getf 12 28 (o_i (760) (o_iaload (o_i (1) (o_icge (o_i (-1) (sk_B (g, d, ck, sk, xX12_scrape, Q) 63)) (o_i (3) (sk_B (g, d, ck, sk, xX12_scrape, Q) 63)))))))) (o_i (2) (sk_B (g, d, ck, sk, xX12_scrape, Q) 63)))))) (o_i (1) (sk_B (g, d, ck, sk, xX12_scrape, Q) 63))))))))))) (o_i (0) (sk_B (g, d, ck, sk, xX12_scrape, Q) 63)))))
set_option maxRecDepth 20000 in
theorem tX12_scrape_0 {g : sk_G} {d ck sk : Nat} {Q : sk_P} : sk_S (g, d, ck, sk, xX12_scrape, Q) 0 (kX12_scrape_0 g d ck sk Q) := s_aload_n dX12_scrape_0 rfl (s_aload_n dX12_scrape_1 rfl (s_getf (ci := 12) (j := 23) (C := RX12) (T := TX12) (N := 49) dX12_scrape_2 rfl (by decide) (by decide) qf_X12_273 (s_ifne (tgt := 12) dX12_scrape_5 (by decide) (s_aload_n dX12_scrape_12 rfl (s_iload_n dX12_scrape_13 rfl (s_invT (X := xX12_isRow) (ci := 12) (T := TX12) (N := 49) (K := (fun Q => kX12_isRow_0 g (d - 1) 0 0 Q)) (fun _ => tX12_isRow_0) rfl dX12_scrape_14 m_X12_isRow rfl (by decide) qm_X12_376 qi_X12_isRow qe_X12_isRow (s_ifeq (tgt := 30) dX12_scrape_17 (by decide) (s_iconst dX12_scrape_30 (s_goto (tgt := 63) dX12_scrape_31 (by decide) (sk_id))) (s_iload_n dX12_scrape_20 rfl (s_iconst dX12_scrape_21 (s_bipush dX12_scrape_22 rfl (s_stcT (X := xX12_in) (K := (fun Q => kX12_in_0 g (d - 1) 0 0 Q)) (fun _ => tX12_in_0) rfl dX12_scrape_24 m_X12_in qm_X12_224 qs_X12_in (s_ifne (tgt := 34) dX12_scrape_27 (by decide) (s_aload_n dX12_scrape_34 rfl (s_iload_n dX12_scrape_35 rfl (s_invB (w' := (g, d, ck, sk, xX12_scrape, Q)) (ci := 12) (ck := 0) (sk := 0) (T := TX12) (N := 49) dX12_scrape_36 m_X12_layersOf rfl (by decide) qm_X12_379 qi_X12_layersOf qe_X12_layersOf rfl (s_ifne (tgt := 46) dX12_scrape_39 (by decide) (s_aload_n dX12_scrape_46 rfl (s_getf (ci := 12) (j := 28) (C := RX12) (T := TX12) (N := 49) dX12_scrape_47 rfl (by decide) (by decide) qf_X12_61 (s_sipush dX12_scrape_50 rfl (s_iaload dX12_scrape_53 (s_iconst dX12_scrape_54 (s_icge (tgt := 62) dX12_scrape_55 (by decide) (s_iconst dX12_scrape_62 (sk_id)) (s_iconst dX12_scrape_58 (s_goto (tgt := 63) dX12_scrape_59 (by decide) (sk_id))))))))) (s_iconst dX12_scrape_42 (s_goto (tgt := 63) dX12_scrape_43 (by decide) (sk_id))))))) (s_iconst dX12_scrape_30 (s_goto (tgt := 63) dX12_scrape_31 (by decide) (sk_id)))))))))))) (s_iconst dX12_scrape_8 (s_goto (tgt := 63) dX12_scrape_9 (by decide) (sk_id))))))
set_option maxRecDepth 20000 in
def kX12_scrape_63 (g : sk_G) (d ck sk : Nat) (Q : sk_P) : sk_K := o_invT (g, d, ck, sk, xX12_scrape, Q) 2 1 12 (fun Q => kX12_isRefused_0 g (d - 1) 0 0 Q) (o_ifeq (o_aload 0 (o_invB (g, d, ck, sk, xX12_scrape, Q) xX12_keep 0 12 0 0 (o_aload 0 (o_getf 12 28 (o_i (760) (o_dup2 (o_iaload (o_i (1) (o_isub (o_iastore (o_aload 0 (o_iload 1 (o_iload 2 (o_invB (g, d, ck, sk, xX12_scrape, Q) xX12_scrapeNow 2 12 0 0 (o_iret (g, d, ck, sk, xX12_scrape, Q)))))))))))))))) (o_i (-1) (o_iret (g, d, ck, sk, xX12_scrape, Q))))
set_option maxRecDepth 20000 in
theorem tX12_scrape_63 {g : sk_G} {d ck sk : Nat} {Q : sk_P} : sk_S (g, d, ck, sk, xX12_scrape, Q) 63 (kX12_scrape_63 g d ck sk Q) := s_invT (X := xX12_isRefused) (ci := 12) (T := TX12) (N := 49) (K := (fun Q => kX12_isRefused_0 g (d - 1) 0 0 Q)) (fun _ => tX12_isRefused_0) rfl dX12_scrape_63 m_X12_isRefused rfl (by decide) qm_X12_364 qi_X12_isRefused qe_X12_isRefused (s_ifeq (tgt := 71) dX12_scrape_66 (by decide) (s_aload_n dX12_scrape_71 rfl (s_invB (w' := (g, d, ck, sk, xX12_scrape, Q)) (ci := 12) (ck := 0) (sk := 0) (T := TX12) (N := 49) dX12_scrape_72 m_X12_keep rfl (by decide) qm_X12_367 qi_X12_keep qe_X12_keep rfl (s_aload_n dX12_scrape_75 rfl (s_getf (ci := 12) (j := 28) (C := RX12) (T := TX12) (N := 49) dX12_scrape_76 rfl (by decide) (by decide) qf_X12_61 (s_sipush dX12_scrape_79 rfl (s_dup2 dX12_scrape_82 (s_iaload dX12_scrape_83 (s_iconst dX12_scrape_84 (s_isub dX12_scrape_85 (s_iastore dX12_scrape_86 (s_aload_n dX12_scrape_87 rfl (s_iload_n dX12_scrape_88 rfl (s_iload_n dX12_scrape_89 rfl (s_invB (w' := (g, d, ck, sk, xX12_scrape, Q)) (ci := 12) (ck := 0) (sk := 0) (T := TX12) (N := 49) dX12_scrape_90 m_X12_scrapeNow rfl (by decide) qm_X12_382 qi_X12_scrapeNow qe_X12_scrapeNow rfl (s_iret dX12_scrape_93 rfl))))))))))))))) (s_iconst dX12_scrape_69 (s_iret dX12_scrape_70 rfl)))
theorem dX12_layersOf_0 : decode cX12_layersOf 0 = .ok (.iconst 0, 1) := by decide +kernel
theorem dX12_layersOf_1 : decode cX12_layersOf 1 = .ok (.istore_n 2, 1) := by decide +kernel
theorem dX12_layersOf_2 : decode cX12_layersOf 2 = .ok (.iconst 0, 1) := by decide +kernel
theorem dX12_layersOf_3 : decode cX12_layersOf 3 = .ok (.istore_n 3, 1) := by decide +kernel
theorem dX12_layersOf_4 : decode cX12_layersOf 4 = .ok (.iload_n 3, 1) := by decide +kernel
theorem dX12_layersOf_5 : decode cX12_layersOf 5 = .ok (.aload_n 0, 1) := by decide +kernel
theorem dX12_layersOf_6 : decode cX12_layersOf 6 = .ok (.getfield 46, 3) := by decide +kernel
theorem dX12_layersOf_9 : decode cX12_layersOf 9 = .ok (.iconst 0, 1) := by decide +kernel
theorem dX12_layersOf_10 : decode cX12_layersOf 10 = .ok (.iaload, 1) := by decide +kernel
theorem dX12_layersOf_11 : decode cX12_layersOf 11 = .ok (.if_icmp .ge 29, 3) := by decide +kernel
theorem dX12_layersOf_14 : decode cX12_layersOf 14 = .ok (.iload_n 2, 1) := by decide +kernel
theorem dX12_layersOf_15 : decode cX12_layersOf 15 = .ok (.aload_n 0, 1) := by decide +kernel
theorem dX12_layersOf_16 : decode cX12_layersOf 16 = .ok (.getfield 61, 3) := by decide +kernel
theorem dX12_layersOf_19 : decode cX12_layersOf 19 = .ok (.iconst 0, 1) := by decide +kernel
theorem dX12_layersOf_20 : decode cX12_layersOf 20 = .ok (.aload_n 0, 1) := by decide +kernel
theorem dX12_layersOf_21 : decode cX12_layersOf 21 = .ok (.getfield 46, 3) := by decide +kernel
theorem dX12_layersOf_24 : decode cX12_layersOf 24 = .ok (.iconst 0, 1) := by decide +kernel
theorem dX12_layersOf_25 : decode cX12_layersOf 25 = .ok (.iaload, 1) := by decide +kernel
theorem dX12_layersOf_26 : decode cX12_layersOf 26 = .ok (.iload_n 1, 1) := by decide +kernel
theorem dX12_layersOf_27 : decode cX12_layersOf 27 = .ok (.imul, 1) := by decide +kernel
theorem dX12_layersOf_28 : decode cX12_layersOf 28 = .ok (.iadd, 1) := by decide +kernel
theorem dX12_layersOf_29 : decode cX12_layersOf 29 = .ok (.iload_n 3, 1) := by decide +kernel
theorem dX12_layersOf_30 : decode cX12_layersOf 30 = .ok (.iadd, 1) := by decide +kernel
theorem dX12_layersOf_31 : decode cX12_layersOf 31 = .ok (.iaload, 1) := by decide +kernel
theorem dX12_layersOf_32 : decode cX12_layersOf 32 = .ok (.iadd, 1) := by decide +kernel
theorem dX12_layersOf_33 : decode cX12_layersOf 33 = .ok (.istore_n 2, 1) := by decide +kernel
theorem dX12_layersOf_34 : decode cX12_layersOf 34 = .ok (.iinc 3 1, 3) := by decide +kernel
theorem dX12_layersOf_37 : decode cX12_layersOf 37 = .ok (.goto (-33), 3) := by decide +kernel
theorem dX12_layersOf_40 : decode cX12_layersOf 40 = .ok (.iload_n 2, 1) := by decide +kernel
theorem dX12_layersOf_41 : decode cX12_layersOf 41 = .ok (.ireturn, 1) := by decide +kernel
def kX12_layersOf_0 (g : sk_G) (d ck sk : Nat) (Q : sk_P) : sk_K := o_i (0) (o_istore 2 (o_i (0) (o_istore 3 (sk_B (g, d, ck, sk, xX12_layersOf, Q) 4))))
theorem tX12_layersOf_0 {g : sk_G} {d ck sk : Nat} {Q : sk_P} : sk_S (g, d, ck, sk, xX12_layersOf, Q) 0 (kX12_layersOf_0 g d ck sk Q) := s_iconst dX12_layersOf_0 (s_istore_n dX12_layersOf_1 rfl (by decide : 2 < 4) (s_iconst dX12_layersOf_2 (s_istore_n dX12_layersOf_3 rfl (by decide : 3 < 4) (sk_id))))
set_option maxRecDepth 20000 in
def kX12_layersOf_4 (g : sk_G) (d ck sk : Nat) (Q : sk_P) : sk_K := o_iload 3 (o_aload 0 (o_getf 12 20 (o_i (0) (o_iaload (o_icge (o_iload 2 (o_iret (g, d, ck, sk, xX12_layersOf, Q))) (o_iload 2 (o_aload 0 (o_getf 12 28 (o_i (0) (o_aload 0 (o_getf 12 20 (o_i (0) (o_iaload (o_iload 1 (o_imul (o_iadd (o_iload 3 (o_iadd (o_iaload (o_iadd (o_istore 2 (o_iinc 3 (1) (sk_B (g, d, ck, sk, xX12_layersOf, Q) 4)))))))))))))))))))))))
set_option maxRecDepth 20000 in
theorem tX12_layersOf_4 {g : sk_G} {d ck sk : Nat} {Q : sk_P} : sk_S (g, d, ck, sk, xX12_layersOf, Q) 4 (kX12_layersOf_4 g d ck sk Q) := s_iload_n dX12_layersOf_4 rfl (s_aload_n dX12_layersOf_5 rfl (s_getf (ci := 12) (j := 20) (C := RX12) (T := TX12) (N := 49) dX12_layersOf_6 rfl (by decide) (by decide) qf_X12_46 (s_iconst dX12_layersOf_9 (s_iaload dX12_layersOf_10 (s_icge (tgt := 40) dX12_layersOf_11 (by decide) (s_iload_n dX12_layersOf_40 rfl (s_iret dX12_layersOf_41 rfl)) (s_iload_n dX12_layersOf_14 rfl (s_aload_n dX12_layersOf_15 rfl (s_getf (ci := 12) (j := 28) (C := RX12) (T := TX12) (N := 49) dX12_layersOf_16 rfl (by decide) (by decide) qf_X12_61 (s_iconst dX12_layersOf_19 (s_aload_n dX12_layersOf_20 rfl (s_getf (ci := 12) (j := 20) (C := RX12) (T := TX12) (N := 49) dX12_layersOf_21 rfl (by decide) (by decide) qf_X12_46 (s_iconst dX12_layersOf_24 (s_iaload dX12_layersOf_25 (s_iload_n dX12_layersOf_26 rfl (s_imul dX12_layersOf_27 (s_iadd dX12_layersOf_28 (s_iload_n dX12_layersOf_29 rfl (s_iadd dX12_layersOf_30 (s_iaload dX12_layersOf_31 (s_iadd dX12_layersOf_32 (s_istore_n dX12_layersOf_33 rfl (by decide : 2 < 4) (s_iinc dX12_layersOf_34 (by decide : 3 < 4) (s_goto (tgt := 4) dX12_layersOf_37 (by decide) (sk_id))))))))))))))))))))))))
theorem dX12_scrapeNow_0 : decode cX12_scrapeNow 0 = .ok (.iconst 0, 1) := by decide +kernel
theorem dX12_scrapeNow_1 : decode cX12_scrapeNow 1 = .ok (.istore_n 3, 1) := by decide +kernel
theorem dX12_scrapeNow_2 : decode cX12_scrapeNow 2 = .ok (.iconst 0, 1) := by decide +kernel
theorem dX12_scrapeNow_3 : decode cX12_scrapeNow 3 = .ok (.istore 4, 2) := by decide +kernel
theorem dX12_scrapeNow_5 : decode cX12_scrapeNow 5 = .ok (.iload 4, 2) := by decide +kernel
theorem dX12_scrapeNow_7 : decode cX12_scrapeNow 7 = .ok (.aload_n 0, 1) := by decide +kernel
theorem dX12_scrapeNow_8 : decode cX12_scrapeNow 8 = .ok (.getfield 46, 3) := by decide +kernel
theorem dX12_scrapeNow_11 : decode cX12_scrapeNow 11 = .ok (.iconst 0, 1) := by decide +kernel
theorem dX12_scrapeNow_12 : decode cX12_scrapeNow 12 = .ok (.iaload, 1) := by decide +kernel
theorem dX12_scrapeNow_13 : decode cX12_scrapeNow 13 = .ok (.if_icmp .ge 28, 3) := by decide +kernel
theorem dX12_scrapeNow_16 : decode cX12_scrapeNow 16 = .ok (.iload_n 3, 1) := by decide +kernel
theorem dX12_scrapeNow_17 : decode cX12_scrapeNow 17 = .ok (.aload_n 0, 1) := by decide +kernel
theorem dX12_scrapeNow_18 : decode cX12_scrapeNow 18 = .ok (.aload_n 0, 1) := by decide +kernel
theorem dX12_scrapeNow_19 : decode cX12_scrapeNow 19 = .ok (.getfield 46, 3) := by decide +kernel
theorem dX12_scrapeNow_22 : decode cX12_scrapeNow 22 = .ok (.iconst 0, 1) := by decide +kernel
theorem dX12_scrapeNow_23 : decode cX12_scrapeNow 23 = .ok (.iaload, 1) := by decide +kernel
theorem dX12_scrapeNow_24 : decode cX12_scrapeNow 24 = .ok (.iload_n 1, 1) := by decide +kernel
theorem dX12_scrapeNow_25 : decode cX12_scrapeNow 25 = .ok (.imul, 1) := by decide +kernel
theorem dX12_scrapeNow_26 : decode cX12_scrapeNow 26 = .ok (.iload 4, 2) := by decide +kernel
theorem dX12_scrapeNow_28 : decode cX12_scrapeNow 28 = .ok (.iadd, 1) := by decide +kernel
theorem dX12_scrapeNow_29 : decode cX12_scrapeNow 29 = .ok (.iload_n 2, 1) := by decide +kernel
theorem dX12_scrapeNow_30 : decode cX12_scrapeNow 30 = .ok (.invokevirtual 336, 3) := by decide +kernel
theorem dX12_scrapeNow_33 : decode cX12_scrapeNow 33 = .ok (.iadd, 1) := by decide +kernel
theorem dX12_scrapeNow_34 : decode cX12_scrapeNow 34 = .ok (.istore_n 3, 1) := by decide +kernel
theorem dX12_scrapeNow_35 : decode cX12_scrapeNow 35 = .ok (.iinc 4 1, 3) := by decide +kernel
theorem dX12_scrapeNow_38 : decode cX12_scrapeNow 38 = .ok (.goto (-33), 3) := by decide +kernel
theorem dX12_scrapeNow_41 : decode cX12_scrapeNow 41 = .ok (.iload_n 3, 1) := by decide +kernel
theorem dX12_scrapeNow_42 : decode cX12_scrapeNow 42 = .ok (.ireturn, 1) := by decide +kernel
def kX12_scrapeNow_0 (g : sk_G) (d ck sk : Nat) (Q : sk_P) : sk_K := o_i (0) (o_istore 3 (o_i (0) (o_istore 4 (sk_B (g, d, ck, sk, xX12_scrapeNow, Q) 5))))
theorem tX12_scrapeNow_0 {g : sk_G} {d ck sk : Nat} {Q : sk_P} : sk_S (g, d, ck, sk, xX12_scrapeNow, Q) 0 (kX12_scrapeNow_0 g d ck sk Q) := s_iconst dX12_scrapeNow_0 (s_istore_n dX12_scrapeNow_1 rfl (by decide : 3 < 5) (s_iconst dX12_scrapeNow_2 (s_istore dX12_scrapeNow_3 (by decide : 4 < 5) (sk_id))))
set_option maxRecDepth 20000 in
def kX12_scrapeNow_5 (g : sk_G) (d ck sk : Nat) (Q : sk_P) : sk_K := o_iload 4 (o_aload 0 (o_getf 12 20 (o_i (0) (o_iaload (o_icge (o_iload 3 (o_iret (g, d, ck, sk, xX12_scrapeNow, Q))) (o_iload 3 (o_aload 0 (o_aload 0 (o_getf 12 20 (o_i (0) (o_iaload (o_iload 1 (o_imul (o_iload 4 (o_iadd (o_iload 2 (o_invB (g, d, ck, sk, xX12_scrapeNow, Q) xX12_scrapeCell 2 12 0 0 (o_iadd (o_istore 3 (o_iinc 4 (1) (sk_B (g, d, ck, sk, xX12_scrapeNow, Q) 5)))))))))))))))))))))
set_option maxRecDepth 20000 in
theorem tX12_scrapeNow_5 {g : sk_G} {d ck sk : Nat} {Q : sk_P} : sk_S (g, d, ck, sk, xX12_scrapeNow, Q) 5 (kX12_scrapeNow_5 g d ck sk Q) := s_iload dX12_scrapeNow_5 (s_aload_n dX12_scrapeNow_7 rfl (s_getf (ci := 12) (j := 20) (C := RX12) (T := TX12) (N := 49) dX12_scrapeNow_8 rfl (by decide) (by decide) qf_X12_46 (s_iconst dX12_scrapeNow_11 (s_iaload dX12_scrapeNow_12 (s_icge (tgt := 41) dX12_scrapeNow_13 (by decide) (s_iload_n dX12_scrapeNow_41 rfl (s_iret dX12_scrapeNow_42 rfl)) (s_iload_n dX12_scrapeNow_16 rfl (s_aload_n dX12_scrapeNow_17 rfl (s_aload_n dX12_scrapeNow_18 rfl (s_getf (ci := 12) (j := 20) (C := RX12) (T := TX12) (N := 49) dX12_scrapeNow_19 rfl (by decide) (by decide) qf_X12_46 (s_iconst dX12_scrapeNow_22 (s_iaload dX12_scrapeNow_23 (s_iload_n dX12_scrapeNow_24 rfl (s_imul dX12_scrapeNow_25 (s_iload dX12_scrapeNow_26 (s_iadd dX12_scrapeNow_28 (s_iload_n dX12_scrapeNow_29 rfl (s_invB (w' := (g, d, ck, sk, xX12_scrapeNow, Q)) (ci := 12) (ck := 0) (sk := 0) (T := TX12) (N := 49) dX12_scrapeNow_30 m_X12_scrapeCell rfl (by decide) qm_X12_336 qi_X12_scrapeCell qe_X12_scrapeCell rfl (s_iadd dX12_scrapeNow_33 (s_istore_n dX12_scrapeNow_34 rfl (by decide : 3 < 5) (s_iinc dX12_scrapeNow_35 (by decide : 4 < 5) (s_goto (tgt := 5) dX12_scrapeNow_38 (by decide) (sk_id))))))))))))))))))))))
theorem dX12_scrapeCell_0 : decode cX12_scrapeCell 0 = .ok (.iload_n 2, 1) := by decide +kernel
theorem dX12_scrapeCell_1 : decode cX12_scrapeCell 1 = .ok (.istore_n 3, 1) := by decide +kernel
theorem dX12_scrapeCell_2 : decode cX12_scrapeCell 2 = .ok (.aload_n 0, 1) := by decide +kernel
theorem dX12_scrapeCell_3 : decode cX12_scrapeCell 3 = .ok (.getfield 61, 3) := by decide +kernel
theorem dX12_scrapeCell_6 : decode cX12_scrapeCell 6 = .ok (.iconst 0, 1) := by decide +kernel
theorem dX12_scrapeCell_7 : decode cX12_scrapeCell 7 = .ok (.iload_n 1, 1) := by decide +kernel
theorem dX12_scrapeCell_8 : decode cX12_scrapeCell 8 = .ok (.iadd, 1) := by decide +kernel
theorem dX12_scrapeCell_9 : decode cX12_scrapeCell 9 = .ok (.iaload, 1) := by decide +kernel
theorem dX12_scrapeCell_10 : decode cX12_scrapeCell 10 = .ok (.iconst 1, 1) := by decide +kernel
theorem dX12_scrapeCell_11 : decode cX12_scrapeCell 11 = .ok (.isub, 1) := by decide +kernel
theorem dX12_scrapeCell_12 : decode cX12_scrapeCell 12 = .ok (.istore 4, 2) := by decide +kernel
theorem dX12_scrapeCell_14 : decode cX12_scrapeCell 14 = .ok (.iload 4, 2) := by decide +kernel
theorem dX12_scrapeCell_16 : decode cX12_scrapeCell 16 = .ok (.ifCond .lt 47, 3) := by decide +kernel
theorem dX12_scrapeCell_19 : decode cX12_scrapeCell 19 = .ok (.iload_n 3, 1) := by decide +kernel
theorem dX12_scrapeCell_20 : decode cX12_scrapeCell 20 = .ok (.aload_n 0, 1) := by decide +kernel
theorem dX12_scrapeCell_21 : decode cX12_scrapeCell 21 = .ok (.iload_n 1, 1) := by decide +kernel
theorem dX12_scrapeCell_22 : decode cX12_scrapeCell 22 = .ok (.iload 4, 2) := by decide +kernel
theorem dX12_scrapeCell_24 : decode cX12_scrapeCell 24 = .ok (.iconst 2, 1) := by decide +kernel
theorem dX12_scrapeCell_25 : decode cX12_scrapeCell 25 = .ok (.invokevirtual 295, 3) := by decide +kernel
theorem dX12_scrapeCell_28 : decode cX12_scrapeCell 28 = .ok (.invokestatic 317, 3) := by decide +kernel
theorem dX12_scrapeCell_31 : decode cX12_scrapeCell 31 = .ok (.istore 5, 2) := by decide +kernel
theorem dX12_scrapeCell_33 : decode cX12_scrapeCell 33 = .ok (.aload_n 0, 1) := by decide +kernel
theorem dX12_scrapeCell_34 : decode cX12_scrapeCell 34 = .ok (.iload_n 1, 1) := by decide +kernel
theorem dX12_scrapeCell_35 : decode cX12_scrapeCell 35 = .ok (.iload 4, 2) := by decide +kernel
theorem dX12_scrapeCell_37 : decode cX12_scrapeCell 37 = .ok (.iconst 2, 1) := by decide +kernel
theorem dX12_scrapeCell_38 : decode cX12_scrapeCell 38 = .ok (.aload_n 0, 1) := by decide +kernel
theorem dX12_scrapeCell_39 : decode cX12_scrapeCell 39 = .ok (.iload_n 1, 1) := by decide +kernel
theorem dX12_scrapeCell_40 : decode cX12_scrapeCell 40 = .ok (.iload 4, 2) := by decide +kernel
theorem dX12_scrapeCell_42 : decode cX12_scrapeCell 42 = .ok (.iconst 2, 1) := by decide +kernel
theorem dX12_scrapeCell_43 : decode cX12_scrapeCell 43 = .ok (.invokevirtual 295, 3) := by decide +kernel
theorem dX12_scrapeCell_46 : decode cX12_scrapeCell 46 = .ok (.iload 5, 2) := by decide +kernel
theorem dX12_scrapeCell_48 : decode cX12_scrapeCell 48 = .ok (.isub, 1) := by decide +kernel
theorem dX12_scrapeCell_49 : decode cX12_scrapeCell 49 = .ok (.invokevirtual 310, 3) := by decide +kernel
theorem dX12_scrapeCell_52 : decode cX12_scrapeCell 52 = .ok (.iload_n 3, 1) := by decide +kernel
theorem dX12_scrapeCell_53 : decode cX12_scrapeCell 53 = .ok (.iload 5, 2) := by decide +kernel
theorem dX12_scrapeCell_55 : decode cX12_scrapeCell 55 = .ok (.isub, 1) := by decide +kernel
theorem dX12_scrapeCell_56 : decode cX12_scrapeCell 56 = .ok (.istore_n 3, 1) := by decide +kernel
theorem dX12_scrapeCell_57 : decode cX12_scrapeCell 57 = .ok (.iinc 4 (-1), 3) := by decide +kernel
theorem dX12_scrapeCell_60 : decode cX12_scrapeCell 60 = .ok (.goto (-46), 3) := by decide +kernel
theorem dX12_scrapeCell_63 : decode cX12_scrapeCell 63 = .ok (.aload_n 0, 1) := by decide +kernel
theorem dX12_scrapeCell_64 : decode cX12_scrapeCell 64 = .ok (.iload_n 1, 1) := by decide +kernel
theorem dX12_scrapeCell_65 : decode cX12_scrapeCell 65 = .ok (.invokevirtual 324, 3) := by decide +kernel
theorem dX12_scrapeCell_68 : decode cX12_scrapeCell 68 = .ok (.ireturn, 1) := by decide +kernel
def kX12_scrapeCell_0 (g : sk_G) (d ck sk : Nat) (Q : sk_P) : sk_K := o_iload 2 (o_istore 3 (o_aload 0 (o_getf 12 28 (o_i (0) (o_iload 1 (o_iadd (o_iaload (o_i (1) (o_isub (o_istore 4 (sk_B (g, d, ck, sk, xX12_scrapeCell, Q) 14)))))))))))
theorem tX12_scrapeCell_0 {g : sk_G} {d ck sk : Nat} {Q : sk_P} : sk_S (g, d, ck, sk, xX12_scrapeCell, Q) 0 (kX12_scrapeCell_0 g d ck sk Q) := s_iload_n dX12_scrapeCell_0 rfl (s_istore_n dX12_scrapeCell_1 rfl (by decide : 3 < 6) (s_aload_n dX12_scrapeCell_2 rfl (s_getf (ci := 12) (j := 28) (C := RX12) (T := TX12) (N := 49) dX12_scrapeCell_3 rfl (by decide) (by decide) qf_X12_61 (s_iconst dX12_scrapeCell_6 (s_iload_n dX12_scrapeCell_7 rfl (s_iadd dX12_scrapeCell_8 (s_iaload dX12_scrapeCell_9 (s_iconst dX12_scrapeCell_10 (s_isub dX12_scrapeCell_11 (s_istore dX12_scrapeCell_12 (by decide : 4 < 6) (sk_id)))))))))))
set_option maxRecDepth 20000 in
def kX12_scrapeCell_14 (g : sk_G) (d ck sk : Nat) (Q : sk_P) : sk_K := o_iload 4 (o_iflt (o_aload 0 (o_iload 1 (o_invB (g, d, ck, sk, xX12_scrapeCell, Q) xX12_clean 1 12 0 0 (o_iret (g, d, ck, sk, xX12_scrapeCell, Q))))) (o_iload 3 (o_aload 0 (o_iload 1 (o_iload 4 (o_i (2) (o_invT (g, d, ck, sk, xX12_scrapeCell, Q) 4 3 12 (fun Q => kX12_of_0 g (d - 1) 0 0 Q) (o_min (g, d, ck, sk, xX12_scrapeCell, Q) (o_istore 5 (o_aload 0 (o_iload 1 (o_iload 4 (o_i (2) (o_aload 0 (o_iload 1 (o_iload 4 (o_i (2) (o_invT (g, d, ck, sk, xX12_scrapeCell, Q) 4 3 12 (fun Q => kX12_of_0 g (d - 1) 0 0 Q) (o_iload 5 (o_isub (o_invT (g, d, ck, sk, xX12_scrapeCell, Q) 5 4 12 (fun Q => kX12_setOf_0 g (d - 1) 0 0 Q) (o_iload 3 (o_iload 5 (o_isub (o_istore 3 (o_iinc 4 (-1) (sk_B (g, d, ck, sk, xX12_scrapeCell, Q) 14)))))))))))))))))))))))))))
set_option maxRecDepth 20000 in
theorem tX12_scrapeCell_14 {g : sk_G} {d ck sk : Nat} {Q : sk_P} : sk_S (g, d, ck, sk, xX12_scrapeCell, Q) 14 (kX12_scrapeCell_14 g d ck sk Q) := s_iload dX12_scrapeCell_14 (s_iflt (tgt := 63) dX12_scrapeCell_16 (by decide) (s_aload_n dX12_scrapeCell_63 rfl (s_iload_n dX12_scrapeCell_64 rfl (s_invB (w' := (g, d, ck, sk, xX12_scrapeCell, Q)) (ci := 12) (ck := 0) (sk := 0) (T := TX12) (N := 49) dX12_scrapeCell_65 m_X12_clean rfl (by decide) qm_X12_324 qi_X12_clean qe_X12_clean rfl (s_iret dX12_scrapeCell_68 rfl)))) (s_iload_n dX12_scrapeCell_19 rfl (s_aload_n dX12_scrapeCell_20 rfl (s_iload_n dX12_scrapeCell_21 rfl (s_iload dX12_scrapeCell_22 (s_iconst dX12_scrapeCell_24 (s_invT (X := xX12_of) (ci := 12) (T := TX12) (N := 49) (K := (fun Q => kX12_of_0 g (d - 1) 0 0 Q)) (fun _ => tX12_of_0) rfl dX12_scrapeCell_25 m_X12_of rfl (by decide) qm_X12_295 qi_X12_of qe_X12_of (s_min dX12_scrapeCell_28 qm_X12_317 qs_Mmin qz_J9 qc_Mmin (s_istore dX12_scrapeCell_31 (by decide : 5 < 6) (s_aload_n dX12_scrapeCell_33 rfl (s_iload_n dX12_scrapeCell_34 rfl (s_iload dX12_scrapeCell_35 (s_iconst dX12_scrapeCell_37 (s_aload_n dX12_scrapeCell_38 rfl (s_iload_n dX12_scrapeCell_39 rfl (s_iload dX12_scrapeCell_40 (s_iconst dX12_scrapeCell_42 (s_invT (X := xX12_of) (ci := 12) (T := TX12) (N := 49) (K := (fun Q => kX12_of_0 g (d - 1) 0 0 Q)) (fun _ => tX12_of_0) rfl dX12_scrapeCell_43 m_X12_of rfl (by decide) qm_X12_295 qi_X12_of qe_X12_of (s_iload dX12_scrapeCell_46 (s_isub dX12_scrapeCell_48 (s_invT (X := xX12_setOf) (ci := 12) (T := TX12) (N := 49) (K := (fun Q => kX12_setOf_0 g (d - 1) 0 0 Q)) (fun _ => tX12_setOf_0) rfl dX12_scrapeCell_49 m_X12_setOf rfl (by decide) qm_X12_310 qi_X12_setOf qe_X12_setOf (s_iload_n dX12_scrapeCell_52 rfl (s_iload dX12_scrapeCell_53 (s_isub dX12_scrapeCell_55 (s_istore_n dX12_scrapeCell_56 rfl (by decide : 3 < 6) (s_iinc dX12_scrapeCell_57 (by decide : 4 < 6) (s_goto (tgt := 14) dX12_scrapeCell_60 (by decide) (sk_id))))))))))))))))))))))))))))
