theorem dX12_readSkin_0 : decode cX12_readSkin 0 = .ok (.aload_n 0, 1) := by decide +kernel
theorem dX12_readSkin_1 : decode cX12_readSkin 1 = .ok (.iconst 0, 1) := by decide +kernel
theorem dX12_readSkin_2 : decode cX12_readSkin 2 = .ok (.putfield 119, 3) := by decide +kernel
theorem dX12_readSkin_5 : decode cX12_readSkin 5 = .ok (.aload_n 0, 1) := by decide +kernel
theorem dX12_readSkin_6 : decode cX12_readSkin 6 = .ok (.iconst (-1), 1) := by decide +kernel
theorem dX12_readSkin_7 : decode cX12_readSkin 7 = .ok (.putfield 126, 3) := by decide +kernel
theorem dX12_readSkin_10 : decode cX12_readSkin 10 = .ok (.aload_n 0, 1) := by decide +kernel
theorem dX12_readSkin_11 : decode cX12_readSkin 11 = .ok (.iconst 0, 1) := by decide +kernel
theorem dX12_readSkin_12 : decode cX12_readSkin 12 = .ok (.putfield 248, 3) := by decide +kernel
theorem dX12_readSkin_15 : decode cX12_readSkin 15 = .ok (.iconst 0, 1) := by decide +kernel
theorem dX12_readSkin_16 : decode cX12_readSkin 16 = .ok (.istore_n 1, 1) := by decide +kernel
theorem dX12_readSkin_17 : decode cX12_readSkin 17 = .ok (.iconst 0, 1) := by decide +kernel
theorem dX12_readSkin_18 : decode cX12_readSkin 18 = .ok (.istore_n 2, 1) := by decide +kernel
theorem dX12_readSkin_19 : decode cX12_readSkin 19 = .ok (.iload_n 2, 1) := by decide +kernel
theorem dX12_readSkin_20 : decode cX12_readSkin 20 = .ok (.iconst 4, 1) := by decide +kernel
theorem dX12_readSkin_21 : decode cX12_readSkin 21 = .ok (.if_icmp .ge 21, 3) := by decide +kernel
theorem dX12_readSkin_24 : decode cX12_readSkin 24 = .ok (.aload_n 0, 1) := by decide +kernel
theorem dX12_readSkin_25 : decode cX12_readSkin 25 = .ok (.getfield 40, 3) := by decide +kernel
theorem dX12_readSkin_28 : decode cX12_readSkin 28 = .ok (.iload_n 2, 1) := by decide +kernel
theorem dX12_readSkin_29 : decode cX12_readSkin 29 = .ok (.bipush 115, 2) := by decide +kernel
theorem dX12_readSkin_31 : decode cX12_readSkin 31 = .ok (.iload_n 2, 1) := by decide +kernel
theorem dX12_readSkin_32 : decode cX12_readSkin 32 = .ok (.invokestatic 228, 3) := by decide +kernel
theorem dX12_readSkin_35 : decode cX12_readSkin 35 = .ok (.iastore, 1) := by decide +kernel
theorem dX12_readSkin_36 : decode cX12_readSkin 36 = .ok (.iinc 2 1, 3) := by decide +kernel
theorem dX12_readSkin_39 : decode cX12_readSkin 39 = .ok (.goto (-20), 3) := by decide +kernel
theorem dX12_readSkin_42 : decode cX12_readSkin 42 = .ok (.iconst 1, 1) := by decide +kernel
theorem dX12_readSkin_43 : decode cX12_readSkin 43 = .ok (.istore_n 2, 1) := by decide +kernel
theorem dX12_readSkin_44 : decode cX12_readSkin 44 = .ok (.iload_n 2, 1) := by decide +kernel
theorem dX12_readSkin_45 : decode cX12_readSkin 45 = .ok (.ifCond .eq 153, 3) := by decide +kernel
theorem dX12_readSkin_48 : decode cX12_readSkin 48 = .ok (.aload_n 0, 1) := by decide +kernel
theorem dX12_readSkin_49 : decode cX12_readSkin 49 = .ok (.getfield 126, 3) := by decide +kernel
theorem dX12_readSkin_52 : decode cX12_readSkin 52 = .ok (.iconst (-1), 1) := by decide +kernel
theorem dX12_readSkin_53 : decode cX12_readSkin 53 = .ok (.if_icmp .ne 145, 3) := by decide +kernel
theorem dX12_readSkin_56 : decode cX12_readSkin 56 = .ok (.aload_n 0, 1) := by decide +kernel
theorem dX12_readSkin_57 : decode cX12_readSkin 57 = .ok (.invokevirtual 138, 3) := by decide +kernel
theorem dX12_readSkin_60 : decode cX12_readSkin 60 = .ok (.istore_n 3, 1) := by decide +kernel
theorem dX12_readSkin_61 : decode cX12_readSkin 61 = .ok (.iload_n 3, 1) := by decide +kernel
theorem dX12_readSkin_62 : decode cX12_readSkin 62 = .ok (.bipush 115, 2) := by decide +kernel
theorem dX12_readSkin_64 : decode cX12_readSkin 64 = .ok (.if_icmp .ne 33, 3) := by decide +kernel
theorem dX12_readSkin_67 : decode cX12_readSkin 67 = .ok (.iload_n 1, 1) := by decide +kernel
theorem dX12_readSkin_68 : decode cX12_readSkin 68 = .ok (.ifCond .ne 29, 3) := by decide +kernel
theorem dX12_readSkin_71 : decode cX12_readSkin 71 = .ok (.iconst 1, 1) := by decide +kernel
theorem dX12_readSkin_72 : decode cX12_readSkin 72 = .ok (.istore_n 1, 1) := by decide +kernel
theorem dX12_readSkin_73 : decode cX12_readSkin 73 = .ok (.aload_n 0, 1) := by decide +kernel
theorem dX12_readSkin_74 : decode cX12_readSkin 74 = .ok (.dup, 1) := by decide +kernel
theorem dX12_readSkin_75 : decode cX12_readSkin 75 = .ok (.getfield 119, 3) := by decide +kernel
theorem dX12_readSkin_78 : decode cX12_readSkin 78 = .ok (.iconst 1, 1) := by decide +kernel
theorem dX12_readSkin_79 : decode cX12_readSkin 79 = .ok (.iadd, 1) := by decide +kernel
theorem dX12_readSkin_80 : decode cX12_readSkin 80 = .ok (.putfield 119, 3) := by decide +kernel
theorem dX12_readSkin_83 : decode cX12_readSkin 83 = .ok (.aload_n 0, 1) := by decide +kernel
theorem dX12_readSkin_84 : decode cX12_readSkin 84 = .ok (.iload_n 3, 1) := by decide +kernel
theorem dX12_readSkin_85 : decode cX12_readSkin 85 = .ok (.aload_n 0, 1) := by decide +kernel
theorem dX12_readSkin_86 : decode cX12_readSkin 86 = .ok (.getfield 40, 3) := by decide +kernel
theorem dX12_readSkin_89 : decode cX12_readSkin 89 = .ok (.iconst 0, 1) := by decide +kernel
theorem dX12_readSkin_90 : decode cX12_readSkin 90 = .ok (.iconst 4, 1) := by decide +kernel
theorem dX12_readSkin_91 : decode cX12_readSkin 91 = .ok (.invokevirtual 251, 3) := by decide +kernel
theorem dX12_readSkin_94 : decode cX12_readSkin 94 = .ok (.goto 60, 3) := by decide +kernel
theorem dX12_readSkin_97 : decode cX12_readSkin 97 = .ok (.iload_n 3, 1) := by decide +kernel
theorem dX12_readSkin_98 : decode cX12_readSkin 98 = .ok (.bipush 104, 2) := by decide +kernel
theorem dX12_readSkin_100 : decode cX12_readSkin 100 = .ok (.if_icmp .ne 50, 3) := by decide +kernel
theorem dX12_readSkin_103 : decode cX12_readSkin 103 = .ok (.aload_n 0, 1) := by decide +kernel
theorem dX12_readSkin_104 : decode cX12_readSkin 104 = .ok (.getfield 248, 3) := by decide +kernel
theorem dX12_readSkin_107 : decode cX12_readSkin 107 = .ok (.iconst 4, 1) := by decide +kernel
theorem dX12_readSkin_108 : decode cX12_readSkin 108 = .ok (.if_icmp .ge 42, 3) := by decide +kernel
theorem dX12_readSkin_111 : decode cX12_readSkin 111 = .ok (.aload_n 0, 1) := by decide +kernel
theorem dX12_readSkin_112 : decode cX12_readSkin 112 = .ok (.dup, 1) := by decide +kernel
theorem dX12_readSkin_113 : decode cX12_readSkin 113 = .ok (.getfield 119, 3) := by decide +kernel
theorem dX12_readSkin_116 : decode cX12_readSkin 116 = .ok (.iconst 1, 1) := by decide +kernel
theorem dX12_readSkin_117 : decode cX12_readSkin 117 = .ok (.iadd, 1) := by decide +kernel
theorem dX12_readSkin_118 : decode cX12_readSkin 118 = .ok (.putfield 119, 3) := by decide +kernel
theorem dX12_readSkin_121 : decode cX12_readSkin 121 = .ok (.aload_n 0, 1) := by decide +kernel
theorem dX12_readSkin_122 : decode cX12_readSkin 122 = .ok (.iload_n 3, 1) := by decide +kernel
theorem dX12_readSkin_123 : decode cX12_readSkin 123 = .ok (.aload_n 0, 1) := by decide +kernel
theorem dX12_readSkin_124 : decode cX12_readSkin 124 = .ok (.getfield 43, 3) := by decide +kernel
theorem dX12_readSkin_127 : decode cX12_readSkin 127 = .ok (.iconst 2, 1) := by decide +kernel
theorem dX12_readSkin_128 : decode cX12_readSkin 128 = .ok (.aload_n 0, 1) := by decide +kernel
theorem dX12_readSkin_129 : decode cX12_readSkin 129 = .ok (.getfield 248, 3) := by decide +kernel
theorem dX12_readSkin_132 : decode cX12_readSkin 132 = .ok (.imul, 1) := by decide +kernel
theorem dX12_readSkin_133 : decode cX12_readSkin 133 = .ok (.iconst 2, 1) := by decide +kernel
theorem dX12_readSkin_134 : decode cX12_readSkin 134 = .ok (.invokevirtual 251, 3) := by decide +kernel
theorem dX12_readSkin_137 : decode cX12_readSkin 137 = .ok (.aload_n 0, 1) := by decide +kernel
theorem dX12_readSkin_138 : decode cX12_readSkin 138 = .ok (.dup, 1) := by decide +kernel
theorem dX12_readSkin_139 : decode cX12_readSkin 139 = .ok (.getfield 248, 3) := by decide +kernel
theorem dX12_readSkin_142 : decode cX12_readSkin 142 = .ok (.iconst 1, 1) := by decide +kernel
theorem dX12_readSkin_143 : decode cX12_readSkin 143 = .ok (.iadd, 1) := by decide +kernel
theorem dX12_readSkin_144 : decode cX12_readSkin 144 = .ok (.putfield 248, 3) := by decide +kernel
theorem dX12_readSkin_147 : decode cX12_readSkin 147 = .ok (.goto 7, 3) := by decide +kernel
theorem dX12_readSkin_150 : decode cX12_readSkin 150 = .ok (.aload_n 0, 1) := by decide +kernel
theorem dX12_readSkin_151 : decode cX12_readSkin 151 = .ok (.invokevirtual 135, 3) := by decide +kernel
theorem dX12_readSkin_154 : decode cX12_readSkin 154 = .ok (.aload_n 0, 1) := by decide +kernel
theorem dX12_readSkin_155 : decode cX12_readSkin 155 = .ok (.getfield 126, 3) := by decide +kernel
theorem dX12_readSkin_158 : decode cX12_readSkin 158 = .ok (.iconst (-1), 1) := by decide +kernel
theorem dX12_readSkin_159 : decode cX12_readSkin 159 = .ok (.if_icmp .ne 16, 3) := by decide +kernel
theorem dX12_readSkin_162 : decode cX12_readSkin 162 = .ok (.aload_n 0, 1) := by decide +kernel
theorem dX12_readSkin_163 : decode cX12_readSkin 163 = .ok (.invokevirtual 138, 3) := by decide +kernel
theorem dX12_readSkin_166 : decode cX12_readSkin 166 = .ok (.bipush 59, 2) := by decide +kernel
theorem dX12_readSkin_168 : decode cX12_readSkin 168 = .ok (.if_icmp .ne 7, 3) := by decide +kernel
theorem dX12_readSkin_171 : decode cX12_readSkin 171 = .ok (.iconst 1, 1) := by decide +kernel
theorem dX12_readSkin_172 : decode cX12_readSkin 172 = .ok (.goto 4, 3) := by decide +kernel
theorem dX12_readSkin_175 : decode cX12_readSkin 175 = .ok (.iconst 0, 1) := by decide +kernel
theorem dX12_readSkin_176 : decode cX12_readSkin 176 = .ok (.istore_n 2, 1) := by decide +kernel
theorem dX12_readSkin_177 : decode cX12_readSkin 177 = .ok (.aload_n 0, 1) := by decide +kernel
theorem dX12_readSkin_178 : decode cX12_readSkin 178 = .ok (.dup, 1) := by decide +kernel
theorem dX12_readSkin_179 : decode cX12_readSkin 179 = .ok (.getfield 119, 3) := by decide +kernel
theorem dX12_readSkin_182 : decode cX12_readSkin 182 = .ok (.iload_n 2, 1) := by decide +kernel
theorem dX12_readSkin_183 : decode cX12_readSkin 183 = .ok (.ifCond .eq 7, 3) := by decide +kernel
theorem dX12_readSkin_186 : decode cX12_readSkin 186 = .ok (.iconst 1, 1) := by decide +kernel
theorem dX12_readSkin_187 : decode cX12_readSkin 187 = .ok (.goto 4, 3) := by decide +kernel
theorem dX12_readSkin_190 : decode cX12_readSkin 190 = .ok (.iconst 0, 1) := by decide +kernel
theorem dX12_readSkin_191 : decode cX12_readSkin 191 = .ok (.iadd, 1) := by decide +kernel
theorem dX12_readSkin_192 : decode cX12_readSkin 192 = .ok (.putfield 119, 3) := by decide +kernel
theorem dX12_readSkin_195 : decode cX12_readSkin 195 = .ok (.goto (-151), 3) := by decide +kernel
theorem dX12_readSkin_198 : decode cX12_readSkin 198 = .ok (.aload_n 0, 1) := by decide +kernel
theorem dX12_readSkin_199 : decode cX12_readSkin 199 = .ok (.getfield 126, 3) := by decide +kernel
theorem dX12_readSkin_202 : decode cX12_readSkin 202 = .ok (.iconst (-1), 1) := by decide +kernel
theorem dX12_readSkin_203 : decode cX12_readSkin 203 = .ok (.if_icmp .ne 22, 3) := by decide +kernel
theorem dX12_readSkin_206 : decode cX12_readSkin 206 = .ok (.aload_n 0, 1) := by decide +kernel
theorem dX12_readSkin_207 : decode cX12_readSkin 207 = .ok (.invokevirtual 138, 3) := by decide +kernel
theorem dX12_readSkin_210 : decode cX12_readSkin 210 = .ok (.iconst (-1), 1) := by decide +kernel
theorem dX12_readSkin_211 : decode cX12_readSkin 211 = .ok (.if_icmp .ne 10, 3) := by decide +kernel
theorem dX12_readSkin_214 : decode cX12_readSkin 214 = .ok (.aload_n 0, 1) := by decide +kernel
theorem dX12_readSkin_215 : decode cX12_readSkin 215 = .ok (.getfield 248, 3) := by decide +kernel
theorem dX12_readSkin_218 : decode cX12_readSkin 218 = .ok (.ifCond .ne 7, 3) := by decide +kernel
theorem dX12_readSkin_221 : decode cX12_readSkin 221 = .ok (.aload_n 0, 1) := by decide +kernel
theorem dX12_readSkin_222 : decode cX12_readSkin 222 = .ok (.invokevirtual 135, 3) := by decide +kernel
theorem dX12_readSkin_225 : decode cX12_readSkin 225 = .ok (.aload_n 0, 1) := by decide +kernel
theorem dX12_readSkin_226 : decode cX12_readSkin 226 = .ok (.getfield 126, 3) := by decide +kernel
theorem dX12_readSkin_229 : decode cX12_readSkin 229 = .ok (.ireturn, 1) := by decide +kernel
set_option maxRecDepth 20000 in
def kX12_readSkin_0 (g : sk_G) (d ck sk : Nat) (Q : sk_P) : sk_K := o_aload 0 (o_i (0) (o_puti 12 3 (o_aload 0 (o_i (-1) (o_puti 12 4 (o_aload 0 (o_i (0) (o_puti 12 19 (o_i (0) (o_istore 1 (o_i (0) (o_istore 2 (sk_B (g, d, ck, sk, xX12_readSkin, Q) 19)))))))))))))
set_option maxRecDepth 20000 in
theorem tX12_readSkin_0 {g : sk_G} {d ck sk : Nat} {Q : sk_P} : sk_S (g, d, ck, sk, xX12_readSkin, Q) 0 (kX12_readSkin_0 g d ck sk Q) := s_aload_n dX12_readSkin_0 rfl (s_iconst dX12_readSkin_1 (s_puti (ci := 12) (j := 3) (C := RX12) (T := TX12) (N := 49) dX12_readSkin_2 rfl (by decide) (by decide) rfl (tyX12_ok 3 (by decide)) qf_X12_119 (s_aload_n dX12_readSkin_5 rfl (s_iconst dX12_readSkin_6 (s_puti (ci := 12) (j := 4) (C := RX12) (T := TX12) (N := 49) dX12_readSkin_7 rfl (by decide) (by decide) rfl (tyX12_ok 4 (by decide)) qf_X12_126 (s_aload_n dX12_readSkin_10 rfl (s_iconst dX12_readSkin_11 (s_puti (ci := 12) (j := 19) (C := RX12) (T := TX12) (N := 49) dX12_readSkin_12 rfl (by decide) (by decide) rfl (tyX12_ok 19 (by decide)) qf_X12_248 (s_iconst dX12_readSkin_15 (s_istore_n dX12_readSkin_16 rfl (by decide : 1 < 4) (s_iconst dX12_readSkin_17 (s_istore_n dX12_readSkin_18 rfl (by decide : 2 < 4) (sk_id)))))))))))))
set_option maxRecDepth 20000 in
def kX12_readSkin_19 (g : sk_G) (d ck sk : Nat) (Q : sk_P) : sk_K := o_iload 2 (o_i (4) (o_icge (o_i (1) (o_istore 2 (sk_B (g, d, ck, sk, xX12_readSkin, Q) 44))) (o_aload 0 (o_getf 12 17 (o_iload 2 (o_i (115) (o_iload 2 (o_stcB (g, d, ck, sk, xX12_readSkin, Q) xX12_usual 2 0 0 (o_iastore (o_iinc 2 (1) (sk_B (g, d, ck, sk, xX12_readSkin, Q) 19)))))))))))
set_option maxRecDepth 20000 in
theorem tX12_readSkin_19 {g : sk_G} {d ck sk : Nat} {Q : sk_P} : sk_S (g, d, ck, sk, xX12_readSkin, Q) 19 (kX12_readSkin_19 g d ck sk Q) := s_iload_n dX12_readSkin_19 rfl (s_iconst dX12_readSkin_20 (s_icge (tgt := 42) dX12_readSkin_21 (by decide) (s_iconst dX12_readSkin_42 (s_istore_n dX12_readSkin_43 rfl (by decide : 2 < 4) (sk_id))) (s_aload_n dX12_readSkin_24 rfl (s_getf (ci := 12) (j := 17) (C := RX12) (T := TX12) (N := 49) dX12_readSkin_25 rfl (by decide) (by decide) qf_X12_40 (s_iload_n dX12_readSkin_28 rfl (s_bipush dX12_readSkin_29 rfl (s_iload_n dX12_readSkin_31 rfl (s_stcB (w' := (g, d, ck, sk, xX12_readSkin, Q)) (ck := 0) (sk := 0) dX12_readSkin_32 m_X12_usual qm_X12_228 qs_X12_usual rfl (s_iastore dX12_readSkin_35 (s_iinc dX12_readSkin_36 (by decide : 2 < 4) (s_goto (tgt := 19) dX12_readSkin_39 (by decide) (sk_id))))))))))))
set_option maxRecDepth 20000 in
def kX12_readSkin_44 (g : sk_G) (d ck sk : Nat) (Q : sk_P) : sk_K := o_iload 2 (o_ifeq (sk_B (g, d, ck, sk, xX12_readSkin, Q) 198) (o_aload 0 (o_getf 12 4 (o_i (-1) (o_icne (sk_B (g, d, ck, sk, xX12_readSkin, Q) 198) (o_aload 0 (o_invB (g, d, ck, sk, xX12_readSkin, Q) xX12_look 0 12 0 0 (o_istore 3 (o_iload 3 (o_i (115) (o_icne (sk_B (g, d, ck, sk, xX12_readSkin, Q) 97) (o_iload 1 (o_ifne (sk_B (g, d, ck, sk, xX12_readSkin, Q) 97) (o_i (1) (o_istore 1 (o_aload 0 (o_dup (o_getf 12 3 (o_i (1) (o_iadd (o_puti 12 3 (o_aload 0 (o_iload 3 (o_aload 0 (o_getf 12 17 (o_i (0) (o_i (4) (o_invB (g, d, ck, sk, xX12_readSkin, Q) xX12_items 4 12 0 0 (sk_B (g, d, ck, sk, xX12_readSkin, Q) 154)))))))))))))))))))))))))))))
set_option maxRecDepth 20000 in
theorem tX12_readSkin_44 {g : sk_G} {d ck sk : Nat} {Q : sk_P} : sk_S (g, d, ck, sk, xX12_readSkin, Q) 44 (kX12_readSkin_44 g d ck sk Q) := s_iload_n dX12_readSkin_44 rfl (s_ifeq (tgt := 198) dX12_readSkin_45 (by decide) (sk_id) (s_aload_n dX12_readSkin_48 rfl (s_getf (ci := 12) (j := 4) (C := RX12) (T := TX12) (N := 49) dX12_readSkin_49 rfl (by decide) (by decide) qf_X12_126 (s_iconst dX12_readSkin_52 (s_icne (tgt := 198) dX12_readSkin_53 (by decide) (sk_id) (s_aload_n dX12_readSkin_56 rfl (s_invB (w' := (g, d, ck, sk, xX12_readSkin, Q)) (ci := 12) (ck := 0) (sk := 0) (T := TX12) (N := 49) dX12_readSkin_57 m_X12_look rfl (by decide) qm_X12_138 qi_X12_look qe_X12_look rfl (s_istore_n dX12_readSkin_60 rfl (by decide : 3 < 4) (s_iload_n dX12_readSkin_61 rfl (s_bipush dX12_readSkin_62 rfl (s_icne (tgt := 97) dX12_readSkin_64 (by decide) (sk_id) (s_iload_n dX12_readSkin_67 rfl (s_ifne (tgt := 97) dX12_readSkin_68 (by decide) (sk_id) (s_iconst dX12_readSkin_71 (s_istore_n dX12_readSkin_72 rfl (by decide : 1 < 4) (s_aload_n dX12_readSkin_73 rfl (s_dup dX12_readSkin_74 (s_getf (ci := 12) (j := 3) (C := RX12) (T := TX12) (N := 49) dX12_readSkin_75 rfl (by decide) (by decide) qf_X12_119 (s_iconst dX12_readSkin_78 (s_iadd dX12_readSkin_79 (s_puti (ci := 12) (j := 3) (C := RX12) (T := TX12) (N := 49) dX12_readSkin_80 rfl (by decide) (by decide) rfl (tyX12_ok 3 (by decide)) qf_X12_119 (s_aload_n dX12_readSkin_83 rfl (s_iload_n dX12_readSkin_84 rfl (s_aload_n dX12_readSkin_85 rfl (s_getf (ci := 12) (j := 17) (C := RX12) (T := TX12) (N := 49) dX12_readSkin_86 rfl (by decide) (by decide) qf_X12_40 (s_iconst dX12_readSkin_89 (s_iconst dX12_readSkin_90 (s_invB (w' := (g, d, ck, sk, xX12_readSkin, Q)) (ci := 12) (ck := 0) (sk := 0) (T := TX12) (N := 49) dX12_readSkin_91 m_X12_items rfl (by decide) qm_X12_251 qi_X12_items qe_X12_items rfl (s_goto (tgt := 154) dX12_readSkin_94 (by decide) (sk_id))))))))))))))))))))))))))))))
set_option maxRecDepth 20000 in
def kX12_readSkin_97 (g : sk_G) (d ck sk : Nat) (Q : sk_P) : sk_K := o_iload 3 (o_i (104) (o_icne (o_aload 0 (o_invT (g, d, ck, sk, xX12_readSkin, Q) 1 0 12 (fun Q => kX12_bad_0 g (d - 1) 0 0 Q) (sk_B (g, d, ck, sk, xX12_readSkin, Q) 154))) (o_aload 0 (o_getf 12 19 (o_i (4) (o_icge (o_aload 0 (o_invT (g, d, ck, sk, xX12_readSkin, Q) 1 0 12 (fun Q => kX12_bad_0 g (d - 1) 0 0 Q) (sk_B (g, d, ck, sk, xX12_readSkin, Q) 154))) (o_aload 0 (o_dup (o_getf 12 3 (o_i (1) (o_iadd (o_puti 12 3 (o_aload 0 (o_iload 3 (o_aload 0 (o_getf 12 18 (o_i (2) (o_aload 0 (o_getf 12 19 (o_imul (o_i (2) (o_invB (g, d, ck, sk, xX12_readSkin, Q) xX12_items 4 12 0 0 (o_aload 0 (o_dup (o_getf 12 19 (o_i (1) (o_iadd (o_puti 12 19 (sk_B (g, d, ck, sk, xX12_readSkin, Q) 154)))))))))))))))))))))))))))))
set_option maxRecDepth 20000 in
theorem tX12_readSkin_97 {g : sk_G} {d ck sk : Nat} {Q : sk_P} : sk_S (g, d, ck, sk, xX12_readSkin, Q) 97 (kX12_readSkin_97 g d ck sk Q) := s_iload_n dX12_readSkin_97 rfl (s_bipush dX12_readSkin_98 rfl (s_icne (tgt := 150) dX12_readSkin_100 (by decide) (s_aload_n dX12_readSkin_150 rfl (s_invT (X := xX12_bad) (ci := 12) (T := TX12) (N := 49) (K := (fun Q => kX12_bad_0 g (d - 1) 0 0 Q)) (fun _ => tX12_bad_0) rfl dX12_readSkin_151 m_X12_bad rfl (by decide) qm_X12_135 qi_X12_bad qe_X12_bad (sk_id))) (s_aload_n dX12_readSkin_103 rfl (s_getf (ci := 12) (j := 19) (C := RX12) (T := TX12) (N := 49) dX12_readSkin_104 rfl (by decide) (by decide) qf_X12_248 (s_iconst dX12_readSkin_107 (s_icge (tgt := 150) dX12_readSkin_108 (by decide) (s_aload_n dX12_readSkin_150 rfl (s_invT (X := xX12_bad) (ci := 12) (T := TX12) (N := 49) (K := (fun Q => kX12_bad_0 g (d - 1) 0 0 Q)) (fun _ => tX12_bad_0) rfl dX12_readSkin_151 m_X12_bad rfl (by decide) qm_X12_135 qi_X12_bad qe_X12_bad (sk_id))) (s_aload_n dX12_readSkin_111 rfl (s_dup dX12_readSkin_112 (s_getf (ci := 12) (j := 3) (C := RX12) (T := TX12) (N := 49) dX12_readSkin_113 rfl (by decide) (by decide) qf_X12_119 (s_iconst dX12_readSkin_116 (s_iadd dX12_readSkin_117 (s_puti (ci := 12) (j := 3) (C := RX12) (T := TX12) (N := 49) dX12_readSkin_118 rfl (by decide) (by decide) rfl (tyX12_ok 3 (by decide)) qf_X12_119 (s_aload_n dX12_readSkin_121 rfl (s_iload_n dX12_readSkin_122 rfl (s_aload_n dX12_readSkin_123 rfl (s_getf (ci := 12) (j := 18) (C := RX12) (T := TX12) (N := 49) dX12_readSkin_124 rfl (by decide) (by decide) qf_X12_43 (s_iconst dX12_readSkin_127 (s_aload_n dX12_readSkin_128 rfl (s_getf (ci := 12) (j := 19) (C := RX12) (T := TX12) (N := 49) dX12_readSkin_129 rfl (by decide) (by decide) qf_X12_248 (s_imul dX12_readSkin_132 (s_iconst dX12_readSkin_133 (s_invB (w' := (g, d, ck, sk, xX12_readSkin, Q)) (ci := 12) (ck := 0) (sk := 0) (T := TX12) (N := 49) dX12_readSkin_134 m_X12_items rfl (by decide) qm_X12_251 qi_X12_items qe_X12_items rfl (s_aload_n dX12_readSkin_137 rfl (s_dup dX12_readSkin_138 (s_getf (ci := 12) (j := 19) (C := RX12) (T := TX12) (N := 49) dX12_readSkin_139 rfl (by decide) (by decide) qf_X12_248 (s_iconst dX12_readSkin_142 (s_iadd dX12_readSkin_143 (s_puti (ci := 12) (j := 19) (C := RX12) (T := TX12) (N := 49) dX12_readSkin_144 rfl (by decide) (by decide) rfl (tyX12_ok 19 (by decide)) qf_X12_248 (s_goto (tgt := 154) dX12_readSkin_147 (by decide) (sk_id))))))))))))))))))))))))))))))
set_option maxRecDepth 20000 in
def kX12_readSkin_154 (g : sk_G) (d ck sk : Nat) (Q : sk_P) : sk_K := o_aload 0 (o_getf 12 4 (o_i (-1) (o_icne (o_i (0) (sk_B (g, d, ck, sk, xX12_readSkin, Q) 176)) (o_aload 0 (o_invB (g, d, ck, sk, xX12_readSkin, Q) xX12_look 0 12 0 0 (o_i (59) (o_icne (o_i (0) (sk_B (g, d, ck, sk, xX12_readSkin, Q) 176)) (o_i (1) (sk_B (g, d, ck, sk, xX12_readSkin, Q) 176)))))))))
set_option maxRecDepth 20000 in
theorem tX12_readSkin_154 {g : sk_G} {d ck sk : Nat} {Q : sk_P} : sk_S (g, d, ck, sk, xX12_readSkin, Q) 154 (kX12_readSkin_154 g d ck sk Q) := s_aload_n dX12_readSkin_154 rfl (s_getf (ci := 12) (j := 4) (C := RX12) (T := TX12) (N := 49) dX12_readSkin_155 rfl (by decide) (by decide) qf_X12_126 (s_iconst dX12_readSkin_158 (s_icne (tgt := 175) dX12_readSkin_159 (by decide) (s_iconst dX12_readSkin_175 (sk_id)) (s_aload_n dX12_readSkin_162 rfl (s_invB (w' := (g, d, ck, sk, xX12_readSkin, Q)) (ci := 12) (ck := 0) (sk := 0) (T := TX12) (N := 49) dX12_readSkin_163 m_X12_look rfl (by decide) qm_X12_138 qi_X12_look qe_X12_look rfl (s_bipush dX12_readSkin_166 rfl (s_icne (tgt := 175) dX12_readSkin_168 (by decide) (s_iconst dX12_readSkin_175 (sk_id)) (s_iconst dX12_readSkin_171 (s_goto (tgt := 176) dX12_readSkin_172 (by decide) (sk_id))))))))))
set_option maxRecDepth 20000 in
def kX12_readSkin_176 (g : sk_G) (d ck sk : Nat) (Q : sk_P) : sk_K := o_istore 2 (o_aload 0 (o_dup (o_getf 12 3 (o_iload 2 (o_ifeq (o_i (0) (o_iadd (o_puti 12 3 (sk_B (g, d, ck, sk, xX12_readSkin, Q) 44)))) (o_i (1) (o_iadd (o_puti 12 3 (sk_B (g, d, ck, sk, xX12_readSkin, Q) 44)))))))))
set_option maxRecDepth 20000 in
theorem tX12_readSkin_176 {g : sk_G} {d ck sk : Nat} {Q : sk_P} : sk_S (g, d, ck, sk, xX12_readSkin, Q) 176 (kX12_readSkin_176 g d ck sk Q) := s_istore_n dX12_readSkin_176 rfl (by decide : 2 < 4) (s_aload_n dX12_readSkin_177 rfl (s_dup dX12_readSkin_178 (s_getf (ci := 12) (j := 3) (C := RX12) (T := TX12) (N := 49) dX12_readSkin_179 rfl (by decide) (by decide) qf_X12_119 (s_iload_n dX12_readSkin_182 rfl (s_ifeq (tgt := 190) dX12_readSkin_183 (by decide) (s_iconst dX12_readSkin_190 (s_iadd dX12_readSkin_191 (s_puti (ci := 12) (j := 3) (C := RX12) (T := TX12) (N := 49) dX12_readSkin_192 rfl (by decide) (by decide) rfl (tyX12_ok 3 (by decide)) qf_X12_119 (s_goto (tgt := 44) dX12_readSkin_195 (by decide) (sk_id))))) (s_iconst dX12_readSkin_186 (s_goto (tgt := 191) dX12_readSkin_187 (by decide) (s_iadd dX12_readSkin_191 (s_puti (ci := 12) (j := 3) (C := RX12) (T := TX12) (N := 49) dX12_readSkin_192 rfl (by decide) (by decide) rfl (tyX12_ok 3 (by decide)) qf_X12_119 (s_goto (tgt := 44) dX12_readSkin_195 (by decide) (sk_id)))))))))))
set_option maxRecDepth 20000 in
def kX12_readSkin_198 (g : sk_G) (d ck sk : Nat) (Q : sk_P) : sk_K := o_aload 0 (o_getf 12 4 (o_i (-1) (o_icne (o_aload 0 (o_getf 12 4 (o_iret (g, d, ck, sk, xX12_readSkin, Q)))) (o_aload 0 (o_invB (g, d, ck, sk, xX12_readSkin, Q) xX12_look 0 12 0 0 (o_i (-1) (o_icne (o_aload 0 (o_invT (g, d, ck, sk, xX12_readSkin, Q) 1 0 12 (fun Q => kX12_bad_0 g (d - 1) 0 0 Q) (o_aload 0 (o_getf 12 4 (o_iret (g, d, ck, sk, xX12_readSkin, Q)))))) (o_aload 0 (o_getf 12 19 (o_ifne (o_aload 0 (o_getf 12 4 (o_iret (g, d, ck, sk, xX12_readSkin, Q)))) (o_aload 0 (o_invT (g, d, ck, sk, xX12_readSkin, Q) 1 0 12 (fun Q => kX12_bad_0 g (d - 1) 0 0 Q) (o_aload 0 (o_getf 12 4 (o_iret (g, d, ck, sk, xX12_readSkin, Q))))))))))))))))
set_option maxRecDepth 20000 in
theorem tX12_readSkin_198 {g : sk_G} {d ck sk : Nat} {Q : sk_P} : sk_S (g, d, ck, sk, xX12_readSkin, Q) 198 (kX12_readSkin_198 g d ck sk Q) := s_aload_n dX12_readSkin_198 rfl (s_getf (ci := 12) (j := 4) (C := RX12) (T := TX12) (N := 49) dX12_readSkin_199 rfl (by decide) (by decide) qf_X12_126 (s_iconst dX12_readSkin_202 (s_icne (tgt := 225) dX12_readSkin_203 (by decide) (s_aload_n dX12_readSkin_225 rfl (s_getf (ci := 12) (j := 4) (C := RX12) (T := TX12) (N := 49) dX12_readSkin_226 rfl (by decide) (by decide) qf_X12_126 (s_iret dX12_readSkin_229 rfl))) (s_aload_n dX12_readSkin_206 rfl (s_invB (w' := (g, d, ck, sk, xX12_readSkin, Q)) (ci := 12) (ck := 0) (sk := 0) (T := TX12) (N := 49) dX12_readSkin_207 m_X12_look rfl (by decide) qm_X12_138 qi_X12_look qe_X12_look rfl (s_iconst dX12_readSkin_210 (s_icne (tgt := 221) dX12_readSkin_211 (by decide) (s_aload_n dX12_readSkin_221 rfl (s_invT (X := xX12_bad) (ci := 12) (T := TX12) (N := 49) (K := (fun Q => kX12_bad_0 g (d - 1) 0 0 Q)) (fun _ => tX12_bad_0) rfl dX12_readSkin_222 m_X12_bad rfl (by decide) qm_X12_135 qi_X12_bad qe_X12_bad (s_aload_n dX12_readSkin_225 rfl (s_getf (ci := 12) (j := 4) (C := RX12) (T := TX12) (N := 49) dX12_readSkin_226 rfl (by decide) (by decide) qf_X12_126 (s_iret dX12_readSkin_229 rfl))))) (s_aload_n dX12_readSkin_214 rfl (s_getf (ci := 12) (j := 19) (C := RX12) (T := TX12) (N := 49) dX12_readSkin_215 rfl (by decide) (by decide) qf_X12_248 (s_ifne (tgt := 225) dX12_readSkin_218 (by decide) (s_aload_n dX12_readSkin_225 rfl (s_getf (ci := 12) (j := 4) (C := RX12) (T := TX12) (N := 49) dX12_readSkin_226 rfl (by decide) (by decide) qf_X12_126 (s_iret dX12_readSkin_229 rfl))) (s_aload_n dX12_readSkin_221 rfl (s_invT (X := xX12_bad) (ci := 12) (T := TX12) (N := 49) (K := (fun Q => kX12_bad_0 g (d - 1) 0 0 Q)) (fun _ => tX12_bad_0) rfl dX12_readSkin_222 m_X12_bad rfl (by decide) qm_X12_135 qi_X12_bad qe_X12_bad (s_aload_n dX12_readSkin_225 rfl (s_getf (ci := 12) (j := 4) (C := RX12) (T := TX12) (N := 49) dX12_readSkin_226 rfl (by decide) (by decide) qf_X12_126 (s_iret dX12_readSkin_229 rfl)))))))))))))))
theorem dX12_usual_0 : decode cX12_usual 0 = .ok (.iload_n 0, 1) := by decide +kernel
theorem dX12_usual_1 : decode cX12_usual 1 = .ok (.bipush 115, 2) := by decide +kernel
theorem dX12_usual_3 : decode cX12_usual 3 = .ok (.if_icmp .ne 33, 3) := by decide +kernel
theorem dX12_usual_6 : decode cX12_usual 6 = .ok (.iload_n 1, 1) := by decide +kernel
theorem dX12_usual_7 : decode cX12_usual 7 = .ok (.ifCond .ne 8, 3) := by decide +kernel
theorem dX12_usual_10 : decode cX12_usual 10 = .ok (.bipush 6, 2) := by decide +kernel
theorem dX12_usual_12 : decode cX12_usual 12 = .ok (.goto 23, 3) := by decide +kernel
theorem dX12_usual_15 : decode cX12_usual 15 = .ok (.iload_n 1, 1) := by decide +kernel
theorem dX12_usual_16 : decode cX12_usual 16 = .ok (.iconst 1, 1) := by decide +kernel
theorem dX12_usual_17 : decode cX12_usual 17 = .ok (.if_icmp .ne 7, 3) := by decide +kernel
theorem dX12_usual_20 : decode cX12_usual 20 = .ok (.iconst 4, 1) := by decide +kernel
theorem dX12_usual_21 : decode cX12_usual 21 = .ok (.goto 14, 3) := by decide +kernel
theorem dX12_usual_24 : decode cX12_usual 24 = .ok (.iload_n 1, 1) := by decide +kernel
theorem dX12_usual_25 : decode cX12_usual 25 = .ok (.iconst 2, 1) := by decide +kernel
theorem dX12_usual_26 : decode cX12_usual 26 = .ok (.if_icmp .ne 7, 3) := by decide +kernel
theorem dX12_usual_29 : decode cX12_usual 29 = .ok (.iconst 3, 1) := by decide +kernel
theorem dX12_usual_30 : decode cX12_usual 30 = .ok (.goto 5, 3) := by decide +kernel
theorem dX12_usual_33 : decode cX12_usual 33 = .ok (.bipush 20, 2) := by decide +kernel
theorem dX12_usual_35 : decode cX12_usual 35 = .ok (.ireturn, 1) := by decide +kernel
theorem dX12_usual_36 : decode cX12_usual 36 = .ok (.iload_n 1, 1) := by decide +kernel
theorem dX12_usual_37 : decode cX12_usual 37 = .ok (.ifCond .ne 8, 3) := by decide +kernel
theorem dX12_usual_40 : decode cX12_usual 40 = .ok (.bipush 6, 2) := by decide +kernel
theorem dX12_usual_42 : decode cX12_usual 42 = .ok (.goto 4, 3) := by decide +kernel
theorem dX12_usual_45 : decode cX12_usual 45 = .ok (.iconst 1, 1) := by decide +kernel
theorem dX12_usual_46 : decode cX12_usual 46 = .ok (.ireturn, 1) := by decide +kernel
set_option maxRecDepth 20000 in
def kX12_usual_0 (g : sk_G) (d ck sk : Nat) (Q : sk_P) : sk_K := o_iload 0 (o_i (115) (o_icne (o_iload 1 (o_ifne (o_i (1) (o_iret (g, d, ck, sk, xX12_usual, Q))) (o_i (6) (o_iret (g, d, ck, sk, xX12_usual, Q))))) (o_iload 1 (o_ifne (o_iload 1 (o_i (1) (o_icne (o_iload 1 (o_i (2) (o_icne (o_i (20) (o_iret (g, d, ck, sk, xX12_usual, Q))) (o_i (3) (o_iret (g, d, ck, sk, xX12_usual, Q)))))) (o_i (4) (o_iret (g, d, ck, sk, xX12_usual, Q)))))) (o_i (6) (o_iret (g, d, ck, sk, xX12_usual, Q)))))))
set_option maxRecDepth 20000 in
theorem tX12_usual_0 {g : sk_G} {d ck sk : Nat} {Q : sk_P} : sk_S (g, d, ck, sk, xX12_usual, Q) 0 (kX12_usual_0 g d ck sk Q) := s_iload_n dX12_usual_0 rfl (s_bipush dX12_usual_1 rfl (s_icne (tgt := 36) dX12_usual_3 (by decide) (s_iload_n dX12_usual_36 rfl (s_ifne (tgt := 45) dX12_usual_37 (by decide) (s_iconst dX12_usual_45 (s_iret dX12_usual_46 rfl)) (s_bipush dX12_usual_40 rfl (s_goto (tgt := 46) dX12_usual_42 (by decide) (s_iret dX12_usual_46 rfl))))) (s_iload_n dX12_usual_6 rfl (s_ifne (tgt := 15) dX12_usual_7 (by decide) (s_iload_n dX12_usual_15 rfl (s_iconst dX12_usual_16 (s_icne (tgt := 24) dX12_usual_17 (by decide) (s_iload_n dX12_usual_24 rfl (s_iconst dX12_usual_25 (s_icne (tgt := 33) dX12_usual_26 (by decide) (s_bipush dX12_usual_33 rfl (s_iret dX12_usual_35 rfl)) (s_iconst dX12_usual_29 (s_goto (tgt := 35) dX12_usual_30 (by decide) (s_iret dX12_usual_35 rfl)))))) (s_iconst dX12_usual_20 (s_goto (tgt := 35) dX12_usual_21 (by decide) (s_iret dX12_usual_35 rfl)))))) (s_bipush dX12_usual_10 rfl (s_goto (tgt := 35) dX12_usual_12 (by decide) (s_iret dX12_usual_35 rfl)))))))
theorem dX12_look_0 : decode cX12_look 0 = .ok (.aload_n 0, 1) := by decide +kernel
theorem dX12_look_1 : decode cX12_look 1 = .ok (.invokevirtual 122, 3) := by decide +kernel
theorem dX12_look_4 : decode cX12_look 4 = .ok (.bipush 32, 2) := by decide +kernel
theorem dX12_look_6 : decode cX12_look 6 = .ok (.if_icmp .ne 16, 3) := by decide +kernel
theorem dX12_look_9 : decode cX12_look 9 = .ok (.aload_n 0, 1) := by decide +kernel
theorem dX12_look_10 : decode cX12_look 10 = .ok (.dup, 1) := by decide +kernel
theorem dX12_look_11 : decode cX12_look 11 = .ok (.getfield 119, 3) := by decide +kernel
theorem dX12_look_14 : decode cX12_look 14 = .ok (.iconst 1, 1) := by decide +kernel
theorem dX12_look_15 : decode cX12_look 15 = .ok (.iadd, 1) := by decide +kernel
theorem dX12_look_16 : decode cX12_look 16 = .ok (.putfield 119, 3) := by decide +kernel
theorem dX12_look_19 : decode cX12_look 19 = .ok (.goto (-19), 3) := by decide +kernel
theorem dX12_look_22 : decode cX12_look 22 = .ok (.aload_n 0, 1) := by decide +kernel
theorem dX12_look_23 : decode cX12_look 23 = .ok (.invokevirtual 122, 3) := by decide +kernel
theorem dX12_look_26 : decode cX12_look 26 = .ok (.ireturn, 1) := by decide +kernel
set_option maxRecDepth 20000 in
def kX12_look_0 (g : sk_G) (d ck sk : Nat) (Q : sk_P) : sk_K := o_aload 0 (o_invT (g, d, ck, sk, xX12_look, Q) 1 0 12 (fun Q => kX12_here_0 g (d - 1) 0 0 Q) (o_i (32) (o_icne (o_aload 0 (o_invT (g, d, ck, sk, xX12_look, Q) 1 0 12 (fun Q => kX12_here_0 g (d - 1) 0 0 Q) (o_iret (g, d, ck, sk, xX12_look, Q)))) (o_aload 0 (o_dup (o_getf 12 3 (o_i (1) (o_iadd (o_puti 12 3 (sk_B (g, d, ck, sk, xX12_look, Q) 0))))))))))
set_option maxRecDepth 20000 in
theorem tX12_look_0 {g : sk_G} {d ck sk : Nat} {Q : sk_P} : sk_S (g, d, ck, sk, xX12_look, Q) 0 (kX12_look_0 g d ck sk Q) := s_aload_n dX12_look_0 rfl (s_invT (X := xX12_here) (ci := 12) (T := TX12) (N := 49) (K := (fun Q => kX12_here_0 g (d - 1) 0 0 Q)) (fun _ => tX12_here_0) rfl dX12_look_1 m_X12_here rfl (by decide) qm_X12_122 qi_X12_here qe_X12_here (s_bipush dX12_look_4 rfl (s_icne (tgt := 22) dX12_look_6 (by decide) (s_aload_n dX12_look_22 rfl (s_invT (X := xX12_here) (ci := 12) (T := TX12) (N := 49) (K := (fun Q => kX12_here_0 g (d - 1) 0 0 Q)) (fun _ => tX12_here_0) rfl dX12_look_23 m_X12_here rfl (by decide) qm_X12_122 qi_X12_here qe_X12_here (s_iret dX12_look_26 rfl))) (s_aload_n dX12_look_9 rfl (s_dup dX12_look_10 (s_getf (ci := 12) (j := 3) (C := RX12) (T := TX12) (N := 49) dX12_look_11 rfl (by decide) (by decide) qf_X12_119 (s_iconst dX12_look_14 (s_iadd dX12_look_15 (s_puti (ci := 12) (j := 3) (C := RX12) (T := TX12) (N := 49) dX12_look_16 rfl (by decide) (by decide) rfl (tyX12_ok 3 (by decide)) qf_X12_119 (s_goto (tgt := 0) dX12_look_19 (by decide) (sk_id)))))))))))
theorem dX12_items_0 : decode cX12_items 0 = .ok (.iconst 0, 1) := by decide +kernel
theorem dX12_items_1 : decode cX12_items 1 = .ok (.istore 5, 2) := by decide +kernel
theorem dX12_items_3 : decode cX12_items 3 = .ok (.iload 5, 2) := by decide +kernel
theorem dX12_items_5 : decode cX12_items 5 = .ok (.iload 4, 2) := by decide +kernel
theorem dX12_items_7 : decode cX12_items 7 = .ok (.if_icmp .ge 21, 3) := by decide +kernel
theorem dX12_items_10 : decode cX12_items 10 = .ok (.aload_n 2, 1) := by decide +kernel
theorem dX12_items_11 : decode cX12_items 11 = .ok (.iload_n 3, 1) := by decide +kernel
theorem dX12_items_12 : decode cX12_items 12 = .ok (.iload 5, 2) := by decide +kernel
theorem dX12_items_14 : decode cX12_items 14 = .ok (.iadd, 1) := by decide +kernel
theorem dX12_items_15 : decode cX12_items 15 = .ok (.iload_n 1, 1) := by decide +kernel
theorem dX12_items_16 : decode cX12_items 16 = .ok (.iload 5, 2) := by decide +kernel
theorem dX12_items_18 : decode cX12_items 18 = .ok (.invokestatic 228, 3) := by decide +kernel
theorem dX12_items_21 : decode cX12_items 21 = .ok (.iastore, 1) := by decide +kernel
theorem dX12_items_22 : decode cX12_items 22 = .ok (.iinc 5 1, 3) := by decide +kernel
theorem dX12_items_25 : decode cX12_items 25 = .ok (.goto (-22), 3) := by decide +kernel
theorem dX12_items_28 : decode cX12_items 28 = .ok (.iconst 0, 1) := by decide +kernel
theorem dX12_items_29 : decode cX12_items 29 = .ok (.istore 5, 2) := by decide +kernel
theorem dX12_items_31 : decode cX12_items 31 = .ok (.iload_n 1, 1) := by decide +kernel
theorem dX12_items_32 : decode cX12_items 32 = .ok (.aload_n 0, 1) := by decide +kernel
theorem dX12_items_33 : decode cX12_items 33 = .ok (.invokevirtual 138, 3) := by decide +kernel
theorem dX12_items_36 : decode cX12_items 36 = .ok (.invokestatic 232, 3) := by decide +kernel
theorem dX12_items_39 : decode cX12_items 39 = .ok (.istore 6, 2) := by decide +kernel
theorem dX12_items_41 : decode cX12_items 41 = .ok (.aload_n 0, 1) := by decide +kernel
theorem dX12_items_42 : decode cX12_items 42 = .ok (.getfield 126, 3) := by decide +kernel
theorem dX12_items_45 : decode cX12_items 45 = .ok (.iconst (-1), 1) := by decide +kernel
theorem dX12_items_46 : decode cX12_items 46 = .ok (.if_icmp .ne 85, 3) := by decide +kernel
theorem dX12_items_49 : decode cX12_items 49 = .ok (.iload 6, 2) := by decide +kernel
theorem dX12_items_51 : decode cX12_items 51 = .ok (.iconst (-1), 1) := by decide +kernel
theorem dX12_items_52 : decode cX12_items 52 = .ok (.if_icmp .eq 79, 3) := by decide +kernel
theorem dX12_items_55 : decode cX12_items 55 = .ok (.iload 5, 2) := by decide +kernel
theorem dX12_items_57 : decode cX12_items 57 = .ok (.iload 6, 2) := by decide +kernel
theorem dX12_items_59 : decode cX12_items 59 = .ok (.invokestatic 235, 3) := by decide +kernel
theorem dX12_items_62 : decode cX12_items 62 = .ok (.ifCond .ne 69, 3) := by decide +kernel
theorem dX12_items_65 : decode cX12_items 65 = .ok (.iload 5, 2) := by decide +kernel
theorem dX12_items_67 : decode cX12_items 67 = .ok (.iconst 1, 1) := by decide +kernel
theorem dX12_items_68 : decode cX12_items 68 = .ok (.iload 6, 2) := by decide +kernel
theorem dX12_items_70 : decode cX12_items 70 = .ok (.ishl, 1) := by decide +kernel
theorem dX12_items_71 : decode cX12_items 71 = .ok (.ior, 1) := by decide +kernel
theorem dX12_items_72 : decode cX12_items 72 = .ok (.istore 5, 2) := by decide +kernel
theorem dX12_items_74 : decode cX12_items 74 = .ok (.aload_n 0, 1) := by decide +kernel
theorem dX12_items_75 : decode cX12_items 75 = .ok (.dup, 1) := by decide +kernel
theorem dX12_items_76 : decode cX12_items 76 = .ok (.getfield 119, 3) := by decide +kernel
theorem dX12_items_79 : decode cX12_items 79 = .ok (.iconst 1, 1) := by decide +kernel
theorem dX12_items_80 : decode cX12_items 80 = .ok (.iadd, 1) := by decide +kernel
theorem dX12_items_81 : decode cX12_items 81 = .ok (.putfield 119, 3) := by decide +kernel
theorem dX12_items_84 : decode cX12_items 84 = .ok (.aload_n 2, 1) := by decide +kernel
theorem dX12_items_85 : decode cX12_items 85 = .ok (.iload_n 3, 1) := by decide +kernel
theorem dX12_items_86 : decode cX12_items 86 = .ok (.iload 6, 2) := by decide +kernel
theorem dX12_items_88 : decode cX12_items 88 = .ok (.iadd, 1) := by decide +kernel
theorem dX12_items_89 : decode cX12_items 89 = .ok (.aload_n 0, 1) := by decide +kernel
theorem dX12_items_90 : decode cX12_items 90 = .ok (.iload_n 1, 1) := by decide +kernel
theorem dX12_items_91 : decode cX12_items 91 = .ok (.iload 6, 2) := by decide +kernel
theorem dX12_items_93 : decode cX12_items 93 = .ok (.invokestatic 239, 3) := by decide +kernel
theorem dX12_items_96 : decode cX12_items 96 = .ok (.iload_n 1, 1) := by decide +kernel
theorem dX12_items_97 : decode cX12_items 97 = .ok (.iload 6, 2) := by decide +kernel
theorem dX12_items_99 : decode cX12_items 99 = .ok (.invokestatic 242, 3) := by decide +kernel
theorem dX12_items_102 : decode cX12_items 102 = .ok (.invokevirtual 245, 3) := by decide +kernel
theorem dX12_items_105 : decode cX12_items 105 = .ok (.iastore, 1) := by decide +kernel
theorem dX12_items_106 : decode cX12_items 106 = .ok (.aload_n 0, 1) := by decide +kernel
theorem dX12_items_107 : decode cX12_items 107 = .ok (.getfield 126, 3) := by decide +kernel
theorem dX12_items_110 : decode cX12_items 110 = .ok (.iconst (-1), 1) := by decide +kernel
theorem dX12_items_111 : decode cX12_items 111 = .ok (.if_icmp .ne 14, 3) := by decide +kernel
theorem dX12_items_114 : decode cX12_items 114 = .ok (.iload_n 1, 1) := by decide +kernel
theorem dX12_items_115 : decode cX12_items 115 = .ok (.aload_n 0, 1) := by decide +kernel
theorem dX12_items_116 : decode cX12_items 116 = .ok (.invokevirtual 138, 3) := by decide +kernel
theorem dX12_items_119 : decode cX12_items 119 = .ok (.invokestatic 232, 3) := by decide +kernel
theorem dX12_items_122 : decode cX12_items 122 = .ok (.goto 4, 3) := by decide +kernel
theorem dX12_items_125 : decode cX12_items 125 = .ok (.iconst (-1), 1) := by decide +kernel
theorem dX12_items_126 : decode cX12_items 126 = .ok (.istore 6, 2) := by decide +kernel
theorem dX12_items_128 : decode cX12_items 128 = .ok (.goto (-87), 3) := by decide +kernel
theorem dX12_items_131 : decode cX12_items 131 = .ok (.return_, 1) := by decide +kernel
def kX12_items_0 (g : sk_G) (d ck sk : Nat) (Q : sk_P) : sk_K := o_i (0) (o_istore 5 (sk_B (g, d, ck, sk, xX12_items, Q) 3))
theorem tX12_items_0 {g : sk_G} {d ck sk : Nat} {Q : sk_P} : sk_S (g, d, ck, sk, xX12_items, Q) 0 (kX12_items_0 g d ck sk Q) := s_iconst dX12_items_0 (s_istore dX12_items_1 (by decide : 5 < 7) (sk_id))
set_option maxRecDepth 20000 in
def kX12_items_3 (g : sk_G) (d ck sk : Nat) (Q : sk_P) : sk_K := o_iload 5 (o_iload 4 (o_icge (o_i (0) (o_istore 5 (o_iload 1 (o_aload 0 (o_invB (g, d, ck, sk, xX12_items, Q) xX12_look 0 12 0 0 (o_stcB (g, d, ck, sk, xX12_items, Q) xX12_itemOf 2 0 0 (o_istore 6 (sk_B (g, d, ck, sk, xX12_items, Q) 41)))))))) (o_aload 2 (o_iload 3 (o_iload 5 (o_iadd (o_iload 1 (o_iload 5 (o_stcB (g, d, ck, sk, xX12_items, Q) xX12_usual 2 0 0 (o_iastore (o_iinc 5 (1) (sk_B (g, d, ck, sk, xX12_items, Q) 3))))))))))))
set_option maxRecDepth 20000 in
theorem tX12_items_3 {g : sk_G} {d ck sk : Nat} {Q : sk_P} : sk_S (g, d, ck, sk, xX12_items, Q) 3 (kX12_items_3 g d ck sk Q) := s_iload dX12_items_3 (s_iload dX12_items_5 (s_icge (tgt := 28) dX12_items_7 (by decide) (s_iconst dX12_items_28 (s_istore dX12_items_29 (by decide : 5 < 7) (s_iload_n dX12_items_31 rfl (s_aload_n dX12_items_32 rfl (s_invB (w' := (g, d, ck, sk, xX12_items, Q)) (ci := 12) (ck := 0) (sk := 0) (T := TX12) (N := 49) dX12_items_33 m_X12_look rfl (by decide) qm_X12_138 qi_X12_look qe_X12_look rfl (s_stcB (w' := (g, d, ck, sk, xX12_items, Q)) (ck := 0) (sk := 0) dX12_items_36 m_X12_itemOf qm_X12_232 qs_X12_itemOf rfl (s_istore dX12_items_39 (by decide : 6 < 7) (sk_id)))))))) (s_aload_n dX12_items_10 rfl (s_iload_n dX12_items_11 rfl (s_iload dX12_items_12 (s_iadd dX12_items_14 (s_iload_n dX12_items_15 rfl (s_iload dX12_items_16 (s_stcB (w' := (g, d, ck, sk, xX12_items, Q)) (ck := 0) (sk := 0) dX12_items_18 m_X12_usual qm_X12_228 qs_X12_usual rfl (s_iastore dX12_items_21 (s_iinc dX12_items_22 (by decide : 5 < 7) (s_goto (tgt := 3) dX12_items_25 (by decide) (sk_id)))))))))))))
set_option maxRecDepth 20000 in
def kX12_items_41 (g : sk_G) (d ck sk : Nat) (Q : sk_P) : sk_K := o_aload 0 (o_getf 12 4 (o_i (-1) (o_icne (o_ret (g, d, ck, sk, xX12_items, Q)) (o_iload 6 (o_i (-1) (o_iceq (o_ret (g, d, ck, sk, xX12_items, Q)) (o_iload 5 (o_iload 6 (o_stcT (g, d, ck, sk, xX12_items, Q) 2 2 (fun Q => kX12_has_0 g (d - 1) 0 0 Q) (o_ifne (o_ret (g, d, ck, sk, xX12_items, Q)) (o_iload 5 (o_i (1) (o_iload 6 (o_ishl (o_ior (o_istore 5 (o_aload 0 (o_dup (o_getf 12 3 (o_i (1) (o_iadd (o_puti 12 3 (o_aload 2 (o_iload 3 (o_iload 6 (o_iadd (o_aload 0 (o_iload 1 (o_iload 6 (o_stcB (g, d, ck, sk, xX12_items, Q) xX12_lowest 2 0 0 (o_iload 1 (o_iload 6 (o_stcB (g, d, ck, sk, xX12_items, Q) xX12_highest 2 0 0 (o_invB (g, d, ck, sk, xX12_items, Q) xX12_number 2 12 0 0 (o_iastore (o_aload 0 (o_getf 12 4 (o_i (-1) (o_icne (o_i (-1) (o_istore 6 (sk_B (g, d, ck, sk, xX12_items, Q) 41))) (o_iload 1 (o_aload 0 (o_invB (g, d, ck, sk, xX12_items, Q) xX12_look 0 12 0 0 (o_stcB (g, d, ck, sk, xX12_items, Q) xX12_itemOf 2 0 0 (o_istore 6 (sk_B (g, d, ck, sk, xX12_items, Q) 41)))))))))))))))))))))))))))))))))))))))))))))
set_option maxRecDepth 20000 in
theorem tX12_items_41 {g : sk_G} {d ck sk : Nat} {Q : sk_P} : sk_S (g, d, ck, sk, xX12_items, Q) 41 (kX12_items_41 g d ck sk Q) := s_aload_n dX12_items_41 rfl (s_getf (ci := 12) (j := 4) (C := RX12) (T := TX12) (N := 49) dX12_items_42 rfl (by decide) (by decide) qf_X12_126 (s_iconst dX12_items_45 (s_icne (tgt := 131) dX12_items_46 (by decide) (s_ret dX12_items_131 rfl) (s_iload dX12_items_49 (s_iconst dX12_items_51 (s_iceq (tgt := 131) dX12_items_52 (by decide) (s_ret dX12_items_131 rfl) (s_iload dX12_items_55 (s_iload dX12_items_57 (s_stcT (X := xX12_has) (K := (fun Q => kX12_has_0 g (d - 1) 0 0 Q)) (fun _ => tX12_has_0) rfl dX12_items_59 m_X12_has qm_X12_235 qs_X12_has (s_ifne (tgt := 131) dX12_items_62 (by decide) (s_ret dX12_items_131 rfl) (s_iload dX12_items_65 (s_iconst dX12_items_67 (s_iload dX12_items_68 (s_ishl dX12_items_70 (s_ior dX12_items_71 (s_istore dX12_items_72 (by decide : 5 < 7) (s_aload_n dX12_items_74 rfl (s_dup dX12_items_75 (s_getf (ci := 12) (j := 3) (C := RX12) (T := TX12) (N := 49) dX12_items_76 rfl (by decide) (by decide) qf_X12_119 (s_iconst dX12_items_79 (s_iadd dX12_items_80 (s_puti (ci := 12) (j := 3) (C := RX12) (T := TX12) (N := 49) dX12_items_81 rfl (by decide) (by decide) rfl (tyX12_ok 3 (by decide)) qf_X12_119 (s_aload_n dX12_items_84 rfl (s_iload_n dX12_items_85 rfl (s_iload dX12_items_86 (s_iadd dX12_items_88 (s_aload_n dX12_items_89 rfl (s_iload_n dX12_items_90 rfl (s_iload dX12_items_91 (s_stcB (w' := (g, d, ck, sk, xX12_items, Q)) (ck := 0) (sk := 0) dX12_items_93 m_X12_lowest qm_X12_239 qs_X12_lowest rfl (s_iload_n dX12_items_96 rfl (s_iload dX12_items_97 (s_stcB (w' := (g, d, ck, sk, xX12_items, Q)) (ck := 0) (sk := 0) dX12_items_99 m_X12_highest qm_X12_242 qs_X12_highest rfl (s_invB (w' := (g, d, ck, sk, xX12_items, Q)) (ci := 12) (ck := 0) (sk := 0) (T := TX12) (N := 49) dX12_items_102 m_X12_number rfl (by decide) qm_X12_245 qi_X12_number qe_X12_number rfl (s_iastore dX12_items_105 (s_aload_n dX12_items_106 rfl (s_getf (ci := 12) (j := 4) (C := RX12) (T := TX12) (N := 49) dX12_items_107 rfl (by decide) (by decide) qf_X12_126 (s_iconst dX12_items_110 (s_icne (tgt := 125) dX12_items_111 (by decide) (s_iconst dX12_items_125 (s_istore dX12_items_126 (by decide : 6 < 7) (s_goto (tgt := 41) dX12_items_128 (by decide) (sk_id)))) (s_iload_n dX12_items_114 rfl (s_aload_n dX12_items_115 rfl (s_invB (w' := (g, d, ck, sk, xX12_items, Q)) (ci := 12) (ck := 0) (sk := 0) (T := TX12) (N := 49) dX12_items_116 m_X12_look rfl (by decide) qm_X12_138 qi_X12_look qe_X12_look rfl (s_stcB (w' := (g, d, ck, sk, xX12_items, Q)) (ck := 0) (sk := 0) dX12_items_119 m_X12_itemOf qm_X12_232 qs_X12_itemOf rfl (s_goto (tgt := 126) dX12_items_122 (by decide) (s_istore dX12_items_126 (by decide : 6 < 7) (s_goto (tgt := 41) dX12_items_128 (by decide) (sk_id)))))))))))))))))))))))))))))))))))))))))))))))
theorem dX12_itemOf_0 : decode cX12_itemOf 0 = .ok (.iload_n 0, 1) := by decide +kernel
theorem dX12_itemOf_1 : decode cX12_itemOf 1 = .ok (.bipush 115, 2) := by decide +kernel
theorem dX12_itemOf_3 : decode cX12_itemOf 3 = .ok (.if_icmp .ne 45, 3) := by decide +kernel
theorem dX12_itemOf_6 : decode cX12_itemOf 6 = .ok (.iload_n 1, 1) := by decide +kernel
theorem dX12_itemOf_7 : decode cX12_itemOf 7 = .ok (.bipush 119, 2) := by decide +kernel
theorem dX12_itemOf_9 : decode cX12_itemOf 9 = .ok (.if_icmp .ne 7, 3) := by decide +kernel
theorem dX12_itemOf_12 : decode cX12_itemOf 12 = .ok (.iconst 0, 1) := by decide +kernel
theorem dX12_itemOf_13 : decode cX12_itemOf 13 = .ok (.goto 34, 3) := by decide +kernel
theorem dX12_itemOf_16 : decode cX12_itemOf 16 = .ok (.iload_n 1, 1) := by decide +kernel
theorem dX12_itemOf_17 : decode cX12_itemOf 17 = .ok (.bipush 114, 2) := by decide +kernel
theorem dX12_itemOf_19 : decode cX12_itemOf 19 = .ok (.if_icmp .ne 7, 3) := by decide +kernel
theorem dX12_itemOf_22 : decode cX12_itemOf 22 = .ok (.iconst 1, 1) := by decide +kernel
theorem dX12_itemOf_23 : decode cX12_itemOf 23 = .ok (.goto 24, 3) := by decide +kernel
theorem dX12_itemOf_26 : decode cX12_itemOf 26 = .ok (.iload_n 1, 1) := by decide +kernel
theorem dX12_itemOf_27 : decode cX12_itemOf 27 = .ok (.bipush 108, 2) := by decide +kernel
theorem dX12_itemOf_29 : decode cX12_itemOf 29 = .ok (.if_icmp .ne 7, 3) := by decide +kernel
theorem dX12_itemOf_32 : decode cX12_itemOf 32 = .ok (.iconst 2, 1) := by decide +kernel
theorem dX12_itemOf_33 : decode cX12_itemOf 33 = .ok (.goto 14, 3) := by decide +kernel
theorem dX12_itemOf_36 : decode cX12_itemOf 36 = .ok (.iload_n 1, 1) := by decide +kernel
theorem dX12_itemOf_37 : decode cX12_itemOf 37 = .ok (.bipush 107, 2) := by decide +kernel
theorem dX12_itemOf_39 : decode cX12_itemOf 39 = .ok (.if_icmp .ne 7, 3) := by decide +kernel
theorem dX12_itemOf_42 : decode cX12_itemOf 42 = .ok (.iconst 3, 1) := by decide +kernel
theorem dX12_itemOf_43 : decode cX12_itemOf 43 = .ok (.goto 4, 3) := by decide +kernel
theorem dX12_itemOf_46 : decode cX12_itemOf 46 = .ok (.iconst (-1), 1) := by decide +kernel
theorem dX12_itemOf_47 : decode cX12_itemOf 47 = .ok (.ireturn, 1) := by decide +kernel
theorem dX12_itemOf_48 : decode cX12_itemOf 48 = .ok (.iload_n 1, 1) := by decide +kernel
theorem dX12_itemOf_49 : decode cX12_itemOf 49 = .ok (.bipush 105, 2) := by decide +kernel
theorem dX12_itemOf_51 : decode cX12_itemOf 51 = .ok (.if_icmp .ne 7, 3) := by decide +kernel
theorem dX12_itemOf_54 : decode cX12_itemOf 54 = .ok (.iconst 0, 1) := by decide +kernel
theorem dX12_itemOf_55 : decode cX12_itemOf 55 = .ok (.goto 14, 3) := by decide +kernel
theorem dX12_itemOf_58 : decode cX12_itemOf 58 = .ok (.iload_n 1, 1) := by decide +kernel
theorem dX12_itemOf_59 : decode cX12_itemOf 59 = .ok (.bipush 102, 2) := by decide +kernel
theorem dX12_itemOf_61 : decode cX12_itemOf 61 = .ok (.if_icmp .ne 7, 3) := by decide +kernel
theorem dX12_itemOf_64 : decode cX12_itemOf 64 = .ok (.iconst 1, 1) := by decide +kernel
theorem dX12_itemOf_65 : decode cX12_itemOf 65 = .ok (.goto 4, 3) := by decide +kernel
theorem dX12_itemOf_68 : decode cX12_itemOf 68 = .ok (.iconst (-1), 1) := by decide +kernel
theorem dX12_itemOf_69 : decode cX12_itemOf 69 = .ok (.ireturn, 1) := by decide +kernel
set_option maxRecDepth 20000 in
def kX12_itemOf_0 (g : sk_G) (d ck sk : Nat) (Q : sk_P) : sk_K := o_iload 0 (o_i (115) (o_icne (o_iload 1 (o_i (105) (o_icne (o_iload 1 (o_i (102) (o_icne (o_i (-1) (o_iret (g, d, ck, sk, xX12_itemOf, Q))) (o_i (1) (o_iret (g, d, ck, sk, xX12_itemOf, Q)))))) (o_i (0) (o_iret (g, d, ck, sk, xX12_itemOf, Q)))))) (o_iload 1 (o_i (119) (o_icne (o_iload 1 (o_i (114) (o_icne (o_iload 1 (o_i (108) (o_icne (o_iload 1 (o_i (107) (o_icne (o_i (-1) (o_iret (g, d, ck, sk, xX12_itemOf, Q))) (o_i (3) (o_iret (g, d, ck, sk, xX12_itemOf, Q)))))) (o_i (2) (o_iret (g, d, ck, sk, xX12_itemOf, Q)))))) (o_i (1) (o_iret (g, d, ck, sk, xX12_itemOf, Q)))))) (o_i (0) (o_iret (g, d, ck, sk, xX12_itemOf, Q))))))))
set_option maxRecDepth 20000 in
theorem tX12_itemOf_0 {g : sk_G} {d ck sk : Nat} {Q : sk_P} : sk_S (g, d, ck, sk, xX12_itemOf, Q) 0 (kX12_itemOf_0 g d ck sk Q) := s_iload_n dX12_itemOf_0 rfl (s_bipush dX12_itemOf_1 rfl (s_icne (tgt := 48) dX12_itemOf_3 (by decide) (s_iload_n dX12_itemOf_48 rfl (s_bipush dX12_itemOf_49 rfl (s_icne (tgt := 58) dX12_itemOf_51 (by decide) (s_iload_n dX12_itemOf_58 rfl (s_bipush dX12_itemOf_59 rfl (s_icne (tgt := 68) dX12_itemOf_61 (by decide) (s_iconst dX12_itemOf_68 (s_iret dX12_itemOf_69 rfl)) (s_iconst dX12_itemOf_64 (s_goto (tgt := 69) dX12_itemOf_65 (by decide) (s_iret dX12_itemOf_69 rfl)))))) (s_iconst dX12_itemOf_54 (s_goto (tgt := 69) dX12_itemOf_55 (by decide) (s_iret dX12_itemOf_69 rfl)))))) (s_iload_n dX12_itemOf_6 rfl (s_bipush dX12_itemOf_7 rfl (s_icne (tgt := 16) dX12_itemOf_9 (by decide) (s_iload_n dX12_itemOf_16 rfl (s_bipush dX12_itemOf_17 rfl (s_icne (tgt := 26) dX12_itemOf_19 (by decide) (s_iload_n dX12_itemOf_26 rfl (s_bipush dX12_itemOf_27 rfl (s_icne (tgt := 36) dX12_itemOf_29 (by decide) (s_iload_n dX12_itemOf_36 rfl (s_bipush dX12_itemOf_37 rfl (s_icne (tgt := 46) dX12_itemOf_39 (by decide) (s_iconst dX12_itemOf_46 (s_iret dX12_itemOf_47 rfl)) (s_iconst dX12_itemOf_42 (s_goto (tgt := 47) dX12_itemOf_43 (by decide) (s_iret dX12_itemOf_47 rfl)))))) (s_iconst dX12_itemOf_32 (s_goto (tgt := 47) dX12_itemOf_33 (by decide) (s_iret dX12_itemOf_47 rfl)))))) (s_iconst dX12_itemOf_22 (s_goto (tgt := 47) dX12_itemOf_23 (by decide) (s_iret dX12_itemOf_47 rfl)))))) (s_iconst dX12_itemOf_12 (s_goto (tgt := 47) dX12_itemOf_13 (by decide) (s_iret dX12_itemOf_47 rfl))))))))
theorem dX12_lowest_0 : decode cX12_lowest 0 = .ok (.iload_n 0, 1) := by decide +kernel
theorem dX12_lowest_1 : decode cX12_lowest 1 = .ok (.bipush 115, 2) := by decide +kernel
theorem dX12_lowest_3 : decode cX12_lowest 3 = .ok (.if_icmp .ne 22, 3) := by decide +kernel
theorem dX12_lowest_6 : decode cX12_lowest 6 = .ok (.iload_n 1, 1) := by decide +kernel
theorem dX12_lowest_7 : decode cX12_lowest 7 = .ok (.ifCond .ne 7, 3) := by decide +kernel
theorem dX12_lowest_10 : decode cX12_lowest 10 = .ok (.iconst 2, 1) := by decide +kernel
theorem dX12_lowest_11 : decode cX12_lowest 11 = .ok (.goto 13, 3) := by decide +kernel
theorem dX12_lowest_14 : decode cX12_lowest 14 = .ok (.iload_n 1, 1) := by decide +kernel
theorem dX12_lowest_15 : decode cX12_lowest 15 = .ok (.iconst 3, 1) := by decide +kernel
theorem dX12_lowest_16 : decode cX12_lowest 16 = .ok (.if_icmp .ne 7, 3) := by decide +kernel
theorem dX12_lowest_19 : decode cX12_lowest 19 = .ok (.iconst 0, 1) := by decide +kernel
theorem dX12_lowest_20 : decode cX12_lowest 20 = .ok (.goto 4, 3) := by decide +kernel
theorem dX12_lowest_23 : decode cX12_lowest 23 = .ok (.iconst 1, 1) := by decide +kernel
theorem dX12_lowest_24 : decode cX12_lowest 24 = .ok (.ireturn, 1) := by decide +kernel
theorem dX12_lowest_25 : decode cX12_lowest 25 = .ok (.iload_n 1, 1) := by decide +kernel
theorem dX12_lowest_26 : decode cX12_lowest 26 = .ok (.ifCond .ne 7, 3) := by decide +kernel
theorem dX12_lowest_29 : decode cX12_lowest 29 = .ok (.iconst 1, 1) := by decide +kernel
theorem dX12_lowest_30 : decode cX12_lowest 30 = .ok (.goto 4, 3) := by decide +kernel
theorem dX12_lowest_33 : decode cX12_lowest 33 = .ok (.iconst 0, 1) := by decide +kernel
theorem dX12_lowest_34 : decode cX12_lowest 34 = .ok (.ireturn, 1) := by decide +kernel
set_option maxRecDepth 20000 in
def kX12_lowest_0 (g : sk_G) (d ck sk : Nat) (Q : sk_P) : sk_K := o_iload 0 (o_i (115) (o_icne (o_iload 1 (o_ifne (o_i (0) (o_iret (g, d, ck, sk, xX12_lowest, Q))) (o_i (1) (o_iret (g, d, ck, sk, xX12_lowest, Q))))) (o_iload 1 (o_ifne (o_iload 1 (o_i (3) (o_icne (o_i (1) (o_iret (g, d, ck, sk, xX12_lowest, Q))) (o_i (0) (o_iret (g, d, ck, sk, xX12_lowest, Q)))))) (o_i (2) (o_iret (g, d, ck, sk, xX12_lowest, Q)))))))
set_option maxRecDepth 20000 in
theorem tX12_lowest_0 {g : sk_G} {d ck sk : Nat} {Q : sk_P} : sk_S (g, d, ck, sk, xX12_lowest, Q) 0 (kX12_lowest_0 g d ck sk Q) := s_iload_n dX12_lowest_0 rfl (s_bipush dX12_lowest_1 rfl (s_icne (tgt := 25) dX12_lowest_3 (by decide) (s_iload_n dX12_lowest_25 rfl (s_ifne (tgt := 33) dX12_lowest_26 (by decide) (s_iconst dX12_lowest_33 (s_iret dX12_lowest_34 rfl)) (s_iconst dX12_lowest_29 (s_goto (tgt := 34) dX12_lowest_30 (by decide) (s_iret dX12_lowest_34 rfl))))) (s_iload_n dX12_lowest_6 rfl (s_ifne (tgt := 14) dX12_lowest_7 (by decide) (s_iload_n dX12_lowest_14 rfl (s_iconst dX12_lowest_15 (s_icne (tgt := 23) dX12_lowest_16 (by decide) (s_iconst dX12_lowest_23 (s_iret dX12_lowest_24 rfl)) (s_iconst dX12_lowest_19 (s_goto (tgt := 24) dX12_lowest_20 (by decide) (s_iret dX12_lowest_24 rfl)))))) (s_iconst dX12_lowest_10 (s_goto (tgt := 24) dX12_lowest_11 (by decide) (s_iret dX12_lowest_24 rfl)))))))
theorem dX12_highest_0 : decode cX12_highest 0 = .ok (.iload_n 0, 1) := by decide +kernel
theorem dX12_highest_1 : decode cX12_highest 1 = .ok (.bipush 115, 2) := by decide +kernel
theorem dX12_highest_3 : decode cX12_highest 3 = .ok (.if_icmp .ne 34, 3) := by decide +kernel
theorem dX12_highest_6 : decode cX12_highest 6 = .ok (.iload_n 1, 1) := by decide +kernel
theorem dX12_highest_7 : decode cX12_highest 7 = .ok (.ifCond .ne 8, 3) := by decide +kernel
theorem dX12_highest_10 : decode cX12_highest 10 = .ok (.bipush 8, 2) := by decide +kernel
theorem dX12_highest_12 : decode cX12_highest 12 = .ok (.goto 24, 3) := by decide +kernel
theorem dX12_highest_15 : decode cX12_highest 15 = .ok (.iload_n 1, 1) := by decide +kernel
theorem dX12_highest_16 : decode cX12_highest 16 = .ok (.iconst 1, 1) := by decide +kernel
theorem dX12_highest_17 : decode cX12_highest 17 = .ok (.if_icmp .ne 7, 3) := by decide +kernel
theorem dX12_highest_20 : decode cX12_highest 20 = .ok (.iconst 5, 1) := by decide +kernel
theorem dX12_highest_21 : decode cX12_highest 21 = .ok (.goto 15, 3) := by decide +kernel
theorem dX12_highest_24 : decode cX12_highest 24 = .ok (.iload_n 1, 1) := by decide +kernel
theorem dX12_highest_25 : decode cX12_highest 25 = .ok (.iconst 2, 1) := by decide +kernel
theorem dX12_highest_26 : decode cX12_highest 26 = .ok (.if_icmp .ne 8, 3) := by decide +kernel
theorem dX12_highest_29 : decode cX12_highest 29 = .ok (.bipush 9, 2) := by decide +kernel
theorem dX12_highest_31 : decode cX12_highest 31 = .ok (.goto 5, 3) := by decide +kernel
theorem dX12_highest_34 : decode cX12_highest 34 = .ok (.bipush 99, 2) := by decide +kernel
theorem dX12_highest_36 : decode cX12_highest 36 = .ok (.ireturn, 1) := by decide +kernel
theorem dX12_highest_37 : decode cX12_highest 37 = .ok (.bipush 9, 2) := by decide +kernel
theorem dX12_highest_39 : decode cX12_highest 39 = .ok (.ireturn, 1) := by decide +kernel
set_option maxRecDepth 20000 in
def kX12_highest_0 (g : sk_G) (d ck sk : Nat) (Q : sk_P) : sk_K := o_iload 0 (o_i (115) (o_icne (o_i (9) (o_iret (g, d, ck, sk, xX12_highest, Q))) (o_iload 1 (o_ifne (o_iload 1 (o_i (1) (o_icne (o_iload 1 (o_i (2) (o_icne (o_i (99) (o_iret (g, d, ck, sk, xX12_highest, Q))) (o_i (9) (o_iret (g, d, ck, sk, xX12_highest, Q)))))) (o_i (5) (o_iret (g, d, ck, sk, xX12_highest, Q)))))) (o_i (8) (o_iret (g, d, ck, sk, xX12_highest, Q)))))))
set_option maxRecDepth 20000 in
theorem tX12_highest_0 {g : sk_G} {d ck sk : Nat} {Q : sk_P} : sk_S (g, d, ck, sk, xX12_highest, Q) 0 (kX12_highest_0 g d ck sk Q) := s_iload_n dX12_highest_0 rfl (s_bipush dX12_highest_1 rfl (s_icne (tgt := 37) dX12_highest_3 (by decide) (s_bipush dX12_highest_37 rfl (s_iret dX12_highest_39 rfl)) (s_iload_n dX12_highest_6 rfl (s_ifne (tgt := 15) dX12_highest_7 (by decide) (s_iload_n dX12_highest_15 rfl (s_iconst dX12_highest_16 (s_icne (tgt := 24) dX12_highest_17 (by decide) (s_iload_n dX12_highest_24 rfl (s_iconst dX12_highest_25 (s_icne (tgt := 34) dX12_highest_26 (by decide) (s_bipush dX12_highest_34 rfl (s_iret dX12_highest_36 rfl)) (s_bipush dX12_highest_29 rfl (s_goto (tgt := 36) dX12_highest_31 (by decide) (s_iret dX12_highest_36 rfl)))))) (s_iconst dX12_highest_20 (s_goto (tgt := 36) dX12_highest_21 (by decide) (s_iret dX12_highest_36 rfl)))))) (s_bipush dX12_highest_10 rfl (s_goto (tgt := 36) dX12_highest_12 (by decide) (s_iret dX12_highest_36 rfl)))))))
theorem dX12_number_0 : decode cX12_number 0 = .ok (.aload_n 0, 1) := by decide +kernel
theorem dX12_number_1 : decode cX12_number 1 = .ok (.invokevirtual 138, 3) := by decide +kernel
theorem dX12_number_4 : decode cX12_number 4 = .ok (.invokestatic 141, 3) := by decide +kernel
theorem dX12_number_7 : decode cX12_number 7 = .ok (.ifCond .ne 9, 3) := by decide +kernel
theorem dX12_number_10 : decode cX12_number 10 = .ok (.aload_n 0, 1) := by decide +kernel
theorem dX12_number_11 : decode cX12_number 11 = .ok (.invokevirtual 135, 3) := by decide +kernel
theorem dX12_number_14 : decode cX12_number 14 = .ok (.iload_n 1, 1) := by decide +kernel
theorem dX12_number_15 : decode cX12_number 15 = .ok (.ireturn, 1) := by decide +kernel
theorem dX12_number_16 : decode cX12_number 16 = .ok (.aload_n 0, 1) := by decide +kernel
theorem dX12_number_17 : decode cX12_number 17 = .ok (.invokevirtual 122, 3) := by decide +kernel
theorem dX12_number_20 : decode cX12_number 20 = .ok (.bipush 48, 2) := by decide +kernel
theorem dX12_number_22 : decode cX12_number 22 = .ok (.isub, 1) := by decide +kernel
theorem dX12_number_23 : decode cX12_number 23 = .ok (.istore_n 3, 1) := by decide +kernel
theorem dX12_number_24 : decode cX12_number 24 = .ok (.aload_n 0, 1) := by decide +kernel
theorem dX12_number_25 : decode cX12_number 25 = .ok (.dup, 1) := by decide +kernel
theorem dX12_number_26 : decode cX12_number 26 = .ok (.getfield 119, 3) := by decide +kernel
theorem dX12_number_29 : decode cX12_number 29 = .ok (.iconst 1, 1) := by decide +kernel
theorem dX12_number_30 : decode cX12_number 30 = .ok (.iadd, 1) := by decide +kernel
theorem dX12_number_31 : decode cX12_number 31 = .ok (.putfield 119, 3) := by decide +kernel
theorem dX12_number_34 : decode cX12_number 34 = .ok (.aload_n 0, 1) := by decide +kernel
theorem dX12_number_35 : decode cX12_number 35 = .ok (.invokevirtual 122, 3) := by decide +kernel
theorem dX12_number_38 : decode cX12_number 38 = .ok (.invokestatic 141, 3) := by decide +kernel
theorem dX12_number_41 : decode cX12_number 41 = .ok (.ifCond .eq 26, 3) := by decide +kernel
theorem dX12_number_44 : decode cX12_number 44 = .ok (.bipush 10, 2) := by decide +kernel
theorem dX12_number_46 : decode cX12_number 46 = .ok (.iload_n 3, 1) := by decide +kernel
theorem dX12_number_47 : decode cX12_number 47 = .ok (.imul, 1) := by decide +kernel
theorem dX12_number_48 : decode cX12_number 48 = .ok (.aload_n 0, 1) := by decide +kernel
theorem dX12_number_49 : decode cX12_number 49 = .ok (.invokevirtual 122, 3) := by decide +kernel
theorem dX12_number_52 : decode cX12_number 52 = .ok (.iadd, 1) := by decide +kernel
theorem dX12_number_53 : decode cX12_number 53 = .ok (.bipush 48, 2) := by decide +kernel
theorem dX12_number_55 : decode cX12_number 55 = .ok (.isub, 1) := by decide +kernel
theorem dX12_number_56 : decode cX12_number 56 = .ok (.istore_n 3, 1) := by decide +kernel
theorem dX12_number_57 : decode cX12_number 57 = .ok (.aload_n 0, 1) := by decide +kernel
theorem dX12_number_58 : decode cX12_number 58 = .ok (.dup, 1) := by decide +kernel
theorem dX12_number_59 : decode cX12_number 59 = .ok (.getfield 119, 3) := by decide +kernel
theorem dX12_number_62 : decode cX12_number 62 = .ok (.iconst 1, 1) := by decide +kernel
theorem dX12_number_63 : decode cX12_number 63 = .ok (.iadd, 1) := by decide +kernel
theorem dX12_number_64 : decode cX12_number 64 = .ok (.putfield 119, 3) := by decide +kernel
theorem dX12_number_67 : decode cX12_number 67 = .ok (.aload_n 0, 1) := by decide +kernel
theorem dX12_number_68 : decode cX12_number 68 = .ok (.invokevirtual 122, 3) := by decide +kernel
theorem dX12_number_71 : decode cX12_number 71 = .ok (.invokestatic 141, 3) := by decide +kernel
theorem dX12_number_74 : decode cX12_number 74 = .ok (.ifCond .eq 10, 3) := by decide +kernel
theorem dX12_number_77 : decode cX12_number 77 = .ok (.aload_n 0, 1) := by decide +kernel
theorem dX12_number_78 : decode cX12_number 78 = .ok (.invokevirtual 135, 3) := by decide +kernel
theorem dX12_number_81 : decode cX12_number 81 = .ok (.goto 26, 3) := by decide +kernel
theorem dX12_number_84 : decode cX12_number 84 = .ok (.iload_n 3, 1) := by decide +kernel
theorem dX12_number_85 : decode cX12_number 85 = .ok (.iload_n 1, 1) := by decide +kernel
theorem dX12_number_86 : decode cX12_number 86 = .ok (.iload_n 2, 1) := by decide +kernel
theorem dX12_number_87 : decode cX12_number 87 = .ok (.invokestatic 224, 3) := by decide +kernel
theorem dX12_number_90 : decode cX12_number 90 = .ok (.ifCond .ne 17, 3) := by decide +kernel
theorem dX12_number_93 : decode cX12_number 93 = .ok (.aload_n 0, 1) := by decide +kernel
theorem dX12_number_94 : decode cX12_number 94 = .ok (.dup, 1) := by decide +kernel
theorem dX12_number_95 : decode cX12_number 95 = .ok (.getfield 119, 3) := by decide +kernel
theorem dX12_number_98 : decode cX12_number 98 = .ok (.iconst 1, 1) := by decide +kernel
theorem dX12_number_99 : decode cX12_number 99 = .ok (.isub, 1) := by decide +kernel
theorem dX12_number_100 : decode cX12_number 100 = .ok (.putfield 119, 3) := by decide +kernel
theorem dX12_number_103 : decode cX12_number 103 = .ok (.aload_n 0, 1) := by decide +kernel
theorem dX12_number_104 : decode cX12_number 104 = .ok (.invokevirtual 135, 3) := by decide +kernel
theorem dX12_number_107 : decode cX12_number 107 = .ok (.iload_n 3, 1) := by decide +kernel
theorem dX12_number_108 : decode cX12_number 108 = .ok (.ireturn, 1) := by decide +kernel
set_option maxRecDepth 20000 in
def kX12_number_0 (g : sk_G) (d ck sk : Nat) (Q : sk_P) : sk_K := o_aload 0 (o_invB (g, d, ck, sk, xX12_number, Q) xX12_look 0 12 0 0 (o_stcT (g, d, ck, sk, xX12_number, Q) 1 1 (fun Q => kX12_isDigit_0 g (d - 1) 0 0 Q) (o_ifne (o_aload 0 (o_invT (g, d, ck, sk, xX12_number, Q) 1 0 12 (fun Q => kX12_here_0 g (d - 1) 0 0 Q) (o_i (48) (o_isub (o_istore 3 (o_aload 0 (o_dup (o_getf 12 3 (o_i (1) (o_iadd (o_puti 12 3 (o_aload 0 (o_invT (g, d, ck, sk, xX12_number, Q) 1 0 12 (fun Q => kX12_here_0 g (d - 1) 0 0 Q) (o_stcT (g, d, ck, sk, xX12_number, Q) 1 1 (fun Q => kX12_isDigit_0 g (d - 1) 0 0 Q) (o_ifeq (sk_B (g, d, ck, sk, xX12_number, Q) 67) (o_i (10) (o_iload 3 (o_imul (o_aload 0 (o_invT (g, d, ck, sk, xX12_number, Q) 1 0 12 (fun Q => kX12_here_0 g (d - 1) 0 0 Q) (o_iadd (o_i (48) (o_isub (o_istore 3 (o_aload 0 (o_dup (o_getf 12 3 (o_i (1) (o_iadd (o_puti 12 3 (sk_B (g, d, ck, sk, xX12_number, Q) 67))))))))))))))))))))))))))))))) (o_aload 0 (o_invT (g, d, ck, sk, xX12_number, Q) 1 0 12 (fun Q => kX12_bad_0 g (d - 1) 0 0 Q) (o_iload 1 (o_iret (g, d, ck, sk, xX12_number, Q))))))))
set_option maxRecDepth 20000 in
theorem tX12_number_0 {g : sk_G} {d ck sk : Nat} {Q : sk_P} : sk_S (g, d, ck, sk, xX12_number, Q) 0 (kX12_number_0 g d ck sk Q) := s_aload_n dX12_number_0 rfl (s_invB (w' := (g, d, ck, sk, xX12_number, Q)) (ci := 12) (ck := 0) (sk := 0) (T := TX12) (N := 49) dX12_number_1 m_X12_look rfl (by decide) qm_X12_138 qi_X12_look qe_X12_look rfl (s_stcT (X := xX12_isDigit) (K := (fun Q => kX12_isDigit_0 g (d - 1) 0 0 Q)) (fun _ => tX12_isDigit_0) rfl dX12_number_4 m_X12_isDigit qm_X12_141 qs_X12_isDigit (s_ifne (tgt := 16) dX12_number_7 (by decide) (s_aload_n dX12_number_16 rfl (s_invT (X := xX12_here) (ci := 12) (T := TX12) (N := 49) (K := (fun Q => kX12_here_0 g (d - 1) 0 0 Q)) (fun _ => tX12_here_0) rfl dX12_number_17 m_X12_here rfl (by decide) qm_X12_122 qi_X12_here qe_X12_here (s_bipush dX12_number_20 rfl (s_isub dX12_number_22 (s_istore_n dX12_number_23 rfl (by decide : 3 < 4) (s_aload_n dX12_number_24 rfl (s_dup dX12_number_25 (s_getf (ci := 12) (j := 3) (C := RX12) (T := TX12) (N := 49) dX12_number_26 rfl (by decide) (by decide) qf_X12_119 (s_iconst dX12_number_29 (s_iadd dX12_number_30 (s_puti (ci := 12) (j := 3) (C := RX12) (T := TX12) (N := 49) dX12_number_31 rfl (by decide) (by decide) rfl (tyX12_ok 3 (by decide)) qf_X12_119 (s_aload_n dX12_number_34 rfl (s_invT (X := xX12_here) (ci := 12) (T := TX12) (N := 49) (K := (fun Q => kX12_here_0 g (d - 1) 0 0 Q)) (fun _ => tX12_here_0) rfl dX12_number_35 m_X12_here rfl (by decide) qm_X12_122 qi_X12_here qe_X12_here (s_stcT (X := xX12_isDigit) (K := (fun Q => kX12_isDigit_0 g (d - 1) 0 0 Q)) (fun _ => tX12_isDigit_0) rfl dX12_number_38 m_X12_isDigit qm_X12_141 qs_X12_isDigit (s_ifeq (tgt := 67) dX12_number_41 (by decide) (sk_id) (s_bipush dX12_number_44 rfl (s_iload_n dX12_number_46 rfl (s_imul dX12_number_47 (s_aload_n dX12_number_48 rfl (s_invT (X := xX12_here) (ci := 12) (T := TX12) (N := 49) (K := (fun Q => kX12_here_0 g (d - 1) 0 0 Q)) (fun _ => tX12_here_0) rfl dX12_number_49 m_X12_here rfl (by decide) qm_X12_122 qi_X12_here qe_X12_here (s_iadd dX12_number_52 (s_bipush dX12_number_53 rfl (s_isub dX12_number_55 (s_istore_n dX12_number_56 rfl (by decide : 3 < 4) (s_aload_n dX12_number_57 rfl (s_dup dX12_number_58 (s_getf (ci := 12) (j := 3) (C := RX12) (T := TX12) (N := 49) dX12_number_59 rfl (by decide) (by decide) qf_X12_119 (s_iconst dX12_number_62 (s_iadd dX12_number_63 (s_puti (ci := 12) (j := 3) (C := RX12) (T := TX12) (N := 49) dX12_number_64 rfl (by decide) (by decide) rfl (tyX12_ok 3 (by decide)) qf_X12_119 (sk_id))))))))))))))))))))))))))))))) (s_aload_n dX12_number_10 rfl (s_invT (X := xX12_bad) (ci := 12) (T := TX12) (N := 49) (K := (fun Q => kX12_bad_0 g (d - 1) 0 0 Q)) (fun _ => tX12_bad_0) rfl dX12_number_11 m_X12_bad rfl (by decide) qm_X12_135 qi_X12_bad qe_X12_bad (s_iload_n dX12_number_14 rfl (s_iret dX12_number_15 rfl)))))))
set_option maxRecDepth 20000 in
def kX12_number_67 (g : sk_G) (d ck sk : Nat) (Q : sk_P) : sk_K := o_aload 0 (o_invT (g, d, ck, sk, xX12_number, Q) 1 0 12 (fun Q => kX12_here_0 g (d - 1) 0 0 Q) (o_stcT (g, d, ck, sk, xX12_number, Q) 1 1 (fun Q => kX12_isDigit_0 g (d - 1) 0 0 Q) (o_ifeq (o_iload 3 (o_iload 1 (o_iload 2 (o_stcT (g, d, ck, sk, xX12_number, Q) 3 3 (fun Q => kX12_in_0 g (d - 1) 0 0 Q) (o_ifne (o_iload 3 (o_iret (g, d, ck, sk, xX12_number, Q))) (o_aload 0 (o_dup (o_getf 12 3 (o_i (1) (o_isub (o_puti 12 3 (o_aload 0 (o_invT (g, d, ck, sk, xX12_number, Q) 1 0 12 (fun Q => kX12_bad_0 g (d - 1) 0 0 Q) (o_iload 3 (o_iret (g, d, ck, sk, xX12_number, Q)))))))))))))))) (o_aload 0 (o_invT (g, d, ck, sk, xX12_number, Q) 1 0 12 (fun Q => kX12_bad_0 g (d - 1) 0 0 Q) (o_iload 3 (o_iret (g, d, ck, sk, xX12_number, Q))))))))
set_option maxRecDepth 20000 in
theorem tX12_number_67 {g : sk_G} {d ck sk : Nat} {Q : sk_P} : sk_S (g, d, ck, sk, xX12_number, Q) 67 (kX12_number_67 g d ck sk Q) := s_aload_n dX12_number_67 rfl (s_invT (X := xX12_here) (ci := 12) (T := TX12) (N := 49) (K := (fun Q => kX12_here_0 g (d - 1) 0 0 Q)) (fun _ => tX12_here_0) rfl dX12_number_68 m_X12_here rfl (by decide) qm_X12_122 qi_X12_here qe_X12_here (s_stcT (X := xX12_isDigit) (K := (fun Q => kX12_isDigit_0 g (d - 1) 0 0 Q)) (fun _ => tX12_isDigit_0) rfl dX12_number_71 m_X12_isDigit qm_X12_141 qs_X12_isDigit (s_ifeq (tgt := 84) dX12_number_74 (by decide) (s_iload_n dX12_number_84 rfl (s_iload_n dX12_number_85 rfl (s_iload_n dX12_number_86 rfl (s_stcT (X := xX12_in) (K := (fun Q => kX12_in_0 g (d - 1) 0 0 Q)) (fun _ => tX12_in_0) rfl dX12_number_87 m_X12_in qm_X12_224 qs_X12_in (s_ifne (tgt := 107) dX12_number_90 (by decide) (s_iload_n dX12_number_107 rfl (s_iret dX12_number_108 rfl)) (s_aload_n dX12_number_93 rfl (s_dup dX12_number_94 (s_getf (ci := 12) (j := 3) (C := RX12) (T := TX12) (N := 49) dX12_number_95 rfl (by decide) (by decide) qf_X12_119 (s_iconst dX12_number_98 (s_isub dX12_number_99 (s_puti (ci := 12) (j := 3) (C := RX12) (T := TX12) (N := 49) dX12_number_100 rfl (by decide) (by decide) rfl (tyX12_ok 3 (by decide)) qf_X12_119 (s_aload_n dX12_number_103 rfl (s_invT (X := xX12_bad) (ci := 12) (T := TX12) (N := 49) (K := (fun Q => kX12_bad_0 g (d - 1) 0 0 Q)) (fun _ => tX12_bad_0) rfl dX12_number_104 m_X12_bad rfl (by decide) qm_X12_135 qi_X12_bad qe_X12_bad (s_iload_n dX12_number_107 rfl (s_iret dX12_number_108 rfl))))))))))))))) (s_aload_n dX12_number_77 rfl (s_invT (X := xX12_bad) (ci := 12) (T := TX12) (N := 49) (K := (fun Q => kX12_bad_0 g (d - 1) 0 0 Q)) (fun _ => tX12_bad_0) rfl dX12_number_78 m_X12_bad rfl (by decide) qm_X12_135 qi_X12_bad qe_X12_bad (s_goto (tgt := 107) dX12_number_81 (by decide) (s_iload_n dX12_number_107 rfl (s_iret dX12_number_108 rfl))))))))
theorem dX12_readLaw_0 : decode cX12_readLaw 0 = .ok (.aload_n 0, 1) := by decide +kernel
theorem dX12_readLaw_1 : decode cX12_readLaw 1 = .ok (.iload_n 1, 1) := by decide +kernel
theorem dX12_readLaw_2 : decode cX12_readLaw 2 = .ok (.invokevirtual 190, 3) := by decide +kernel
theorem dX12_readLaw_5 : decode cX12_readLaw 5 = .ok (.aload_n 0, 1) := by decide +kernel
theorem dX12_readLaw_6 : decode cX12_readLaw 6 = .ok (.invokevirtual 193, 3) := by decide +kernel
theorem dX12_readLaw_9 : decode cX12_readLaw 9 = .ok (.aload_n 0, 1) := by decide +kernel
theorem dX12_readLaw_10 : decode cX12_readLaw 10 = .ok (.getfield 126, 3) := by decide +kernel
theorem dX12_readLaw_13 : decode cX12_readLaw 13 = .ok (.iconst (-1), 1) := by decide +kernel
theorem dX12_readLaw_14 : decode cX12_readLaw 14 = .ok (.if_icmp .ne 29, 3) := by decide +kernel
theorem dX12_readLaw_17 : decode cX12_readLaw 17 = .ok (.aload_n 0, 1) := by decide +kernel
theorem dX12_readLaw_18 : decode cX12_readLaw 18 = .ok (.invokevirtual 138, 3) := by decide +kernel
theorem dX12_readLaw_21 : decode cX12_readLaw 21 = .ok (.bipush 59, 2) := by decide +kernel
theorem dX12_readLaw_23 : decode cX12_readLaw 23 = .ok (.if_icmp .ne 20, 3) := by decide +kernel
theorem dX12_readLaw_26 : decode cX12_readLaw 26 = .ok (.aload_n 0, 1) := by decide +kernel
theorem dX12_readLaw_27 : decode cX12_readLaw 27 = .ok (.dup, 1) := by decide +kernel
theorem dX12_readLaw_28 : decode cX12_readLaw 28 = .ok (.getfield 119, 3) := by decide +kernel
theorem dX12_readLaw_31 : decode cX12_readLaw 31 = .ok (.iconst 1, 1) := by decide +kernel
theorem dX12_readLaw_32 : decode cX12_readLaw 32 = .ok (.iadd, 1) := by decide +kernel
theorem dX12_readLaw_33 : decode cX12_readLaw 33 = .ok (.putfield 119, 3) := by decide +kernel
theorem dX12_readLaw_36 : decode cX12_readLaw 36 = .ok (.aload_n 0, 1) := by decide +kernel
theorem dX12_readLaw_37 : decode cX12_readLaw 37 = .ok (.invokevirtual 193, 3) := by decide +kernel
theorem dX12_readLaw_40 : decode cX12_readLaw 40 = .ok (.goto (-31), 3) := by decide +kernel
theorem dX12_readLaw_43 : decode cX12_readLaw 43 = .ok (.aload_n 0, 1) := by decide +kernel
theorem dX12_readLaw_44 : decode cX12_readLaw 44 = .ok (.invokevirtual 196, 3) := by decide +kernel
theorem dX12_readLaw_47 : decode cX12_readLaw 47 = .ok (.ireturn, 1) := by decide +kernel
def kX12_readLaw_0 (g : sk_G) (d ck sk : Nat) (Q : sk_P) : sk_K := o_aload 0 (o_iload 1 (o_invB (g, d, ck, sk, xX12_readLaw, Q) xX12_open 1 12 0 0 (o_aload 0 (o_invB (g, d, ck, sk, xX12_readLaw, Q) xX12_clause 0 12 0 0 (sk_B (g, d, ck, sk, xX12_readLaw, Q) 9)))))
theorem tX12_readLaw_0 {g : sk_G} {d ck sk : Nat} {Q : sk_P} : sk_S (g, d, ck, sk, xX12_readLaw, Q) 0 (kX12_readLaw_0 g d ck sk Q) := s_aload_n dX12_readLaw_0 rfl (s_iload_n dX12_readLaw_1 rfl (s_invB (w' := (g, d, ck, sk, xX12_readLaw, Q)) (ci := 12) (ck := 0) (sk := 0) (T := TX12) (N := 49) dX12_readLaw_2 m_X12_open rfl (by decide) qm_X12_190 qi_X12_open qe_X12_open rfl (s_aload_n dX12_readLaw_5 rfl (s_invB (w' := (g, d, ck, sk, xX12_readLaw, Q)) (ci := 12) (ck := 0) (sk := 0) (T := TX12) (N := 49) dX12_readLaw_6 m_X12_clause rfl (by decide) qm_X12_193 qi_X12_clause qe_X12_clause rfl (sk_id)))))
set_option maxRecDepth 20000 in
def kX12_readLaw_9 (g : sk_G) (d ck sk : Nat) (Q : sk_P) : sk_K := o_aload 0 (o_getf 12 4 (o_i (-1) (o_icne (o_aload 0 (o_invB (g, d, ck, sk, xX12_readLaw, Q) xX12_atEnd 0 12 0 0 (o_iret (g, d, ck, sk, xX12_readLaw, Q)))) (o_aload 0 (o_invB (g, d, ck, sk, xX12_readLaw, Q) xX12_look 0 12 0 0 (o_i (59) (o_icne (o_aload 0 (o_invB (g, d, ck, sk, xX12_readLaw, Q) xX12_atEnd 0 12 0 0 (o_iret (g, d, ck, sk, xX12_readLaw, Q)))) (o_aload 0 (o_dup (o_getf 12 3 (o_i (1) (o_iadd (o_puti 12 3 (o_aload 0 (o_invB (g, d, ck, sk, xX12_readLaw, Q) xX12_clause 0 12 0 0 (sk_B (g, d, ck, sk, xX12_readLaw, Q) 9))))))))))))))))
set_option maxRecDepth 20000 in
theorem tX12_readLaw_9 {g : sk_G} {d ck sk : Nat} {Q : sk_P} : sk_S (g, d, ck, sk, xX12_readLaw, Q) 9 (kX12_readLaw_9 g d ck sk Q) := s_aload_n dX12_readLaw_9 rfl (s_getf (ci := 12) (j := 4) (C := RX12) (T := TX12) (N := 49) dX12_readLaw_10 rfl (by decide) (by decide) qf_X12_126 (s_iconst dX12_readLaw_13 (s_icne (tgt := 43) dX12_readLaw_14 (by decide) (s_aload_n dX12_readLaw_43 rfl (s_invB (w' := (g, d, ck, sk, xX12_readLaw, Q)) (ci := 12) (ck := 0) (sk := 0) (T := TX12) (N := 49) dX12_readLaw_44 m_X12_atEnd rfl (by decide) qm_X12_196 qi_X12_atEnd qe_X12_atEnd rfl (s_iret dX12_readLaw_47 rfl))) (s_aload_n dX12_readLaw_17 rfl (s_invB (w' := (g, d, ck, sk, xX12_readLaw, Q)) (ci := 12) (ck := 0) (sk := 0) (T := TX12) (N := 49) dX12_readLaw_18 m_X12_look rfl (by decide) qm_X12_138 qi_X12_look qe_X12_look rfl (s_bipush dX12_readLaw_21 rfl (s_icne (tgt := 43) dX12_readLaw_23 (by decide) (s_aload_n dX12_readLaw_43 rfl (s_invB (w' := (g, d, ck, sk, xX12_readLaw, Q)) (ci := 12) (ck := 0) (sk := 0) (T := TX12) (N := 49) dX12_readLaw_44 m_X12_atEnd rfl (by decide) qm_X12_196 qi_X12_atEnd qe_X12_atEnd rfl (s_iret dX12_readLaw_47 rfl))) (s_aload_n dX12_readLaw_26 rfl (s_dup dX12_readLaw_27 (s_getf (ci := 12) (j := 3) (C := RX12) (T := TX12) (N := 49) dX12_readLaw_28 rfl (by decide) (by decide) qf_X12_119 (s_iconst dX12_readLaw_31 (s_iadd dX12_readLaw_32 (s_puti (ci := 12) (j := 3) (C := RX12) (T := TX12) (N := 49) dX12_readLaw_33 rfl (by decide) (by decide) rfl (tyX12_ok 3 (by decide)) qf_X12_119 (s_aload_n dX12_readLaw_36 rfl (s_invB (w' := (g, d, ck, sk, xX12_readLaw, Q)) (ci := 12) (ck := 0) (sk := 0) (T := TX12) (N := 49) dX12_readLaw_37 m_X12_clause rfl (by decide) qm_X12_193 qi_X12_clause qe_X12_clause rfl (s_goto (tgt := 9) dX12_readLaw_40 (by decide) (sk_id)))))))))))))))))
theorem dX12_open_0 : decode cX12_open 0 = .ok (.aload_n 0, 1) := by decide +kernel
theorem dX12_open_1 : decode cX12_open 1 = .ok (.iload_n 1, 1) := by decide +kernel
theorem dX12_open_2 : decode cX12_open 2 = .ok (.putfield 129, 3) := by decide +kernel
theorem dX12_open_5 : decode cX12_open 5 = .ok (.aload_n 0, 1) := by decide +kernel
theorem dX12_open_6 : decode cX12_open 6 = .ok (.iconst 0, 1) := by decide +kernel
theorem dX12_open_7 : decode cX12_open 7 = .ok (.putfield 119, 3) := by decide +kernel
theorem dX12_open_10 : decode cX12_open 10 = .ok (.aload_n 0, 1) := by decide +kernel
theorem dX12_open_11 : decode cX12_open 11 = .ok (.iconst (-1), 1) := by decide +kernel
theorem dX12_open_12 : decode cX12_open 12 = .ok (.putfield 126, 3) := by decide +kernel
theorem dX12_open_15 : decode cX12_open 15 = .ok (.aload_n 0, 1) := by decide +kernel
theorem dX12_open_16 : decode cX12_open 16 = .ok (.iconst 0, 1) := by decide +kernel
theorem dX12_open_17 : decode cX12_open 17 = .ok (.putfield 132, 3) := by decide +kernel
theorem dX12_open_20 : decode cX12_open 20 = .ok (.aload_n 0, 1) := by decide +kernel
theorem dX12_open_21 : decode cX12_open 21 = .ok (.getfield 19, 3) := by decide +kernel
theorem dX12_open_24 : decode cX12_open 24 = .ok (.iload_n 1, 1) := by decide +kernel
theorem dX12_open_25 : decode cX12_open 25 = .ok (.iconst 0, 1) := by decide +kernel
theorem dX12_open_26 : decode cX12_open 26 = .ok (.iastore, 1) := by decide +kernel
theorem dX12_open_27 : decode cX12_open 27 = .ok (.aload_n 0, 1) := by decide +kernel
theorem dX12_open_28 : decode cX12_open 28 = .ok (.getfield 22, 3) := by decide +kernel
theorem dX12_open_31 : decode cX12_open 31 = .ok (.iload_n 1, 1) := by decide +kernel
theorem dX12_open_32 : decode cX12_open 32 = .ok (.iconst 0, 1) := by decide +kernel
theorem dX12_open_33 : decode cX12_open 33 = .ok (.iastore, 1) := by decide +kernel
theorem dX12_open_34 : decode cX12_open 34 = .ok (.return_, 1) := by decide +kernel
set_option maxRecDepth 20000 in
def kX12_open_0 (g : sk_G) (d ck sk : Nat) (Q : sk_P) : sk_K := o_aload 0 (o_iload 1 (o_puti 12 14 (o_aload 0 (o_i (0) (o_puti 12 3 (o_aload 0 (o_i (-1) (o_puti 12 4 (o_aload 0 (o_i (0) (o_puti 12 5 (o_aload 0 (o_getf 12 8 (o_iload 1 (o_i (0) (o_iastore (o_aload 0 (o_getf 12 9 (o_iload 1 (o_i (0) (o_iastore (o_ret (g, d, ck, sk, xX12_open, Q)))))))))))))))))))))))
set_option maxRecDepth 20000 in
theorem tX12_open_0 {g : sk_G} {d ck sk : Nat} {Q : sk_P} : sk_S (g, d, ck, sk, xX12_open, Q) 0 (kX12_open_0 g d ck sk Q) := s_aload_n dX12_open_0 rfl (s_iload_n dX12_open_1 rfl (s_puti (ci := 12) (j := 14) (C := RX12) (T := TX12) (N := 49) dX12_open_2 rfl (by decide) (by decide) rfl (tyX12_ok 14 (by decide)) qf_X12_129 (s_aload_n dX12_open_5 rfl (s_iconst dX12_open_6 (s_puti (ci := 12) (j := 3) (C := RX12) (T := TX12) (N := 49) dX12_open_7 rfl (by decide) (by decide) rfl (tyX12_ok 3 (by decide)) qf_X12_119 (s_aload_n dX12_open_10 rfl (s_iconst dX12_open_11 (s_puti (ci := 12) (j := 4) (C := RX12) (T := TX12) (N := 49) dX12_open_12 rfl (by decide) (by decide) rfl (tyX12_ok 4 (by decide)) qf_X12_126 (s_aload_n dX12_open_15 rfl (s_iconst dX12_open_16 (s_puti (ci := 12) (j := 5) (C := RX12) (T := TX12) (N := 49) dX12_open_17 rfl (by decide) (by decide) rfl (tyX12_ok 5 (by decide)) qf_X12_132 (s_aload_n dX12_open_20 rfl (s_getf (ci := 12) (j := 8) (C := RX12) (T := TX12) (N := 49) dX12_open_21 rfl (by decide) (by decide) qf_X12_19 (s_iload_n dX12_open_24 rfl (s_iconst dX12_open_25 (s_iastore dX12_open_26 (s_aload_n dX12_open_27 rfl (s_getf (ci := 12) (j := 9) (C := RX12) (T := TX12) (N := 49) dX12_open_28 rfl (by decide) (by decide) qf_X12_22 (s_iload_n dX12_open_31 rfl (s_iconst dX12_open_32 (s_iastore dX12_open_33 (s_ret dX12_open_34 rfl))))))))))))))))))))))
theorem dX12_clause_0 : decode cX12_clause 0 = .ok (.sipush 140, 3) := by decide +kernel
theorem dX12_clause_3 : decode cX12_clause 3 = .ok (.aload_n 0, 1) := by decide +kernel
theorem dX12_clause_4 : decode cX12_clause 4 = .ok (.getfield 129, 3) := by decide +kernel
theorem dX12_clause_7 : decode cX12_clause 7 = .ok (.imul, 1) := by decide +kernel
theorem dX12_clause_8 : decode cX12_clause 8 = .ok (.aload_n 0, 1) := by decide +kernel
theorem dX12_clause_9 : decode cX12_clause 9 = .ok (.getfield 22, 3) := by decide +kernel
theorem dX12_clause_12 : decode cX12_clause 12 = .ok (.aload_n 0, 1) := by decide +kernel
theorem dX12_clause_13 : decode cX12_clause 13 = .ok (.getfield 129, 3) := by decide +kernel
theorem dX12_clause_16 : decode cX12_clause 16 = .ok (.iaload, 1) := by decide +kernel
theorem dX12_clause_17 : decode cX12_clause 17 = .ok (.iadd, 1) := by decide +kernel
theorem dX12_clause_18 : decode cX12_clause 18 = .ok (.istore_n 1, 1) := by decide +kernel
theorem dX12_clause_19 : decode cX12_clause 19 = .ok (.aload_n 0, 1) := by decide +kernel
theorem dX12_clause_20 : decode cX12_clause 20 = .ok (.getfield 126, 3) := by decide +kernel
theorem dX12_clause_23 : decode cX12_clause 23 = .ok (.iconst (-1), 1) := by decide +kernel
theorem dX12_clause_24 : decode cX12_clause 24 = .ok (.if_icmp .ne 16, 3) := by decide +kernel
theorem dX12_clause_27 : decode cX12_clause 27 = .ok (.aload_n 0, 1) := by decide +kernel
theorem dX12_clause_28 : decode cX12_clause 28 = .ok (.invokevirtual 138, 3) := by decide +kernel
theorem dX12_clause_31 : decode cX12_clause 31 = .ok (.bipush 121, 2) := by decide +kernel
theorem dX12_clause_33 : decode cX12_clause 33 = .ok (.if_icmp .eq 7, 3) := by decide +kernel
theorem dX12_clause_36 : decode cX12_clause 36 = .ok (.aload_n 0, 1) := by decide +kernel
theorem dX12_clause_37 : decode cX12_clause 37 = .ok (.invokevirtual 135, 3) := by decide +kernel
theorem dX12_clause_40 : decode cX12_clause 40 = .ok (.aload_n 0, 1) := by decide +kernel
theorem dX12_clause_41 : decode cX12_clause 41 = .ok (.dup, 1) := by decide +kernel
theorem dX12_clause_42 : decode cX12_clause 42 = .ok (.getfield 119, 3) := by decide +kernel
theorem dX12_clause_45 : decode cX12_clause 45 = .ok (.iconst 1, 1) := by decide +kernel
theorem dX12_clause_46 : decode cX12_clause 46 = .ok (.iadd, 1) := by decide +kernel
theorem dX12_clause_47 : decode cX12_clause 47 = .ok (.putfield 119, 3) := by decide +kernel
theorem dX12_clause_50 : decode cX12_clause 50 = .ok (.aload_n 0, 1) := by decide +kernel
theorem dX12_clause_51 : decode cX12_clause 51 = .ok (.getfield 126, 3) := by decide +kernel
theorem dX12_clause_54 : decode cX12_clause 54 = .ok (.iconst (-1), 1) := by decide +kernel
theorem dX12_clause_55 : decode cX12_clause 55 = .ok (.if_icmp .ne 16, 3) := by decide +kernel
theorem dX12_clause_58 : decode cX12_clause 58 = .ok (.aload_n 0, 1) := by decide +kernel
theorem dX12_clause_59 : decode cX12_clause 59 = .ok (.invokevirtual 138, 3) := by decide +kernel
theorem dX12_clause_62 : decode cX12_clause 62 = .ok (.bipush 58, 2) := by decide +kernel
theorem dX12_clause_64 : decode cX12_clause 64 = .ok (.if_icmp .eq 7, 3) := by decide +kernel
theorem dX12_clause_67 : decode cX12_clause 67 = .ok (.aload_n 0, 1) := by decide +kernel
theorem dX12_clause_68 : decode cX12_clause 68 = .ok (.invokevirtual 135, 3) := by decide +kernel
theorem dX12_clause_71 : decode cX12_clause 71 = .ok (.aload_n 0, 1) := by decide +kernel
theorem dX12_clause_72 : decode cX12_clause 72 = .ok (.dup, 1) := by decide +kernel
theorem dX12_clause_73 : decode cX12_clause 73 = .ok (.getfield 119, 3) := by decide +kernel
theorem dX12_clause_76 : decode cX12_clause 76 = .ok (.iconst 1, 1) := by decide +kernel
theorem dX12_clause_77 : decode cX12_clause 77 = .ok (.iadd, 1) := by decide +kernel
theorem dX12_clause_78 : decode cX12_clause 78 = .ok (.putfield 119, 3) := by decide +kernel
theorem dX12_clause_81 : decode cX12_clause 81 = .ok (.aload_n 0, 1) := by decide +kernel
theorem dX12_clause_82 : decode cX12_clause 82 = .ok (.getfield 126, 3) := by decide +kernel
theorem dX12_clause_85 : decode cX12_clause 85 = .ok (.iconst (-1), 1) := by decide +kernel
theorem dX12_clause_86 : decode cX12_clause 86 = .ok (.if_icmp .eq 4, 3) := by decide +kernel
theorem dX12_clause_89 : decode cX12_clause 89 = .ok (.return_, 1) := by decide +kernel
theorem dX12_clause_90 : decode cX12_clause 90 = .ok (.aload_n 0, 1) := by decide +kernel
theorem dX12_clause_91 : decode cX12_clause 91 = .ok (.getfield 25, 3) := by decide +kernel
theorem dX12_clause_94 : decode cX12_clause 94 = .ok (.iload_n 1, 1) := by decide +kernel
theorem dX12_clause_95 : decode cX12_clause 95 = .ok (.aload_n 0, 1) := by decide +kernel
theorem dX12_clause_96 : decode cX12_clause 96 = .ok (.getfield 19, 3) := by decide +kernel
theorem dX12_clause_99 : decode cX12_clause 99 = .ok (.aload_n 0, 1) := by decide +kernel
theorem dX12_clause_100 : decode cX12_clause 100 = .ok (.getfield 129, 3) := by decide +kernel
theorem dX12_clause_103 : decode cX12_clause 103 = .ok (.iaload, 1) := by decide +kernel
theorem dX12_clause_104 : decode cX12_clause 104 = .ok (.iastore, 1) := by decide +kernel
theorem dX12_clause_105 : decode cX12_clause 105 = .ok (.aload_n 0, 1) := by decide +kernel
theorem dX12_clause_106 : decode cX12_clause 106 = .ok (.invokevirtual 138, 3) := by decide +kernel
theorem dX12_clause_109 : decode cX12_clause 109 = .ok (.bipush 33, 2) := by decide +kernel
theorem dX12_clause_111 : decode cX12_clause 111 = .ok (.if_icmp .eq 12, 3) := by decide +kernel
theorem dX12_clause_114 : decode cX12_clause 114 = .ok (.aload_n 0, 1) := by decide +kernel
theorem dX12_clause_115 : decode cX12_clause 115 = .ok (.invokevirtual 138, 3) := by decide +kernel
theorem dX12_clause_118 : decode cX12_clause 118 = .ok (.bipush 40, 2) := by decide +kernel
theorem dX12_clause_120 : decode cX12_clause 120 = .ok (.if_icmp .ne 7, 3) := by decide +kernel
theorem dX12_clause_123 : decode cX12_clause 123 = .ok (.iconst 1, 1) := by decide +kernel
theorem dX12_clause_124 : decode cX12_clause 124 = .ok (.goto 4, 3) := by decide +kernel
theorem dX12_clause_127 : decode cX12_clause 127 = .ok (.iconst 0, 1) := by decide +kernel
theorem dX12_clause_128 : decode cX12_clause 128 = .ok (.istore_n 2, 1) := by decide +kernel
theorem dX12_clause_129 : decode cX12_clause 129 = .ok (.iload_n 2, 1) := by decide +kernel
theorem dX12_clause_130 : decode cX12_clause 130 = .ok (.ifCond .eq 10, 3) := by decide +kernel
theorem dX12_clause_133 : decode cX12_clause 133 = .ok (.aload_n 0, 1) := by decide +kernel
theorem dX12_clause_134 : decode cX12_clause 134 = .ok (.invokevirtual 178, 3) := by decide +kernel
theorem dX12_clause_137 : decode cX12_clause 137 = .ok (.goto 47, 3) := by decide +kernel
theorem dX12_clause_140 : decode cX12_clause 140 = .ok (.aload_n 0, 1) := by decide +kernel
theorem dX12_clause_141 : decode cX12_clause 141 = .ok (.invokevirtual 159, 3) := by decide +kernel
theorem dX12_clause_144 : decode cX12_clause 144 = .ok (.aload_n 0, 1) := by decide +kernel
theorem dX12_clause_145 : decode cX12_clause 145 = .ok (.getfield 126, 3) := by decide +kernel
theorem dX12_clause_148 : decode cX12_clause 148 = .ok (.iconst (-1), 1) := by decide +kernel
theorem dX12_clause_149 : decode cX12_clause 149 = .ok (.if_icmp .ne 17, 3) := by decide +kernel
theorem dX12_clause_152 : decode cX12_clause 152 = .ok (.aload_n 0, 1) := by decide +kernel
theorem dX12_clause_153 : decode cX12_clause 153 = .ok (.invokevirtual 138, 3) := by decide +kernel
theorem dX12_clause_156 : decode cX12_clause 156 = .ok (.invokestatic 172, 3) := by decide +kernel
theorem dX12_clause_159 : decode cX12_clause 159 = .ok (.ifCond .eq 7, 3) := by decide +kernel
theorem dX12_clause_162 : decode cX12_clause 162 = .ok (.iconst 1, 1) := by decide +kernel
theorem dX12_clause_163 : decode cX12_clause 163 = .ok (.goto 4, 3) := by decide +kernel
theorem dX12_clause_166 : decode cX12_clause 166 = .ok (.iconst 0, 1) := by decide +kernel
theorem dX12_clause_167 : decode cX12_clause 167 = .ok (.istore_n 2, 1) := by decide +kernel
theorem dX12_clause_168 : decode cX12_clause 168 = .ok (.iload_n 2, 1) := by decide +kernel
theorem dX12_clause_169 : decode cX12_clause 169 = .ok (.ifCond .eq 15, 3) := by decide +kernel
theorem dX12_clause_172 : decode cX12_clause 172 = .ok (.aload_n 0, 1) := by decide +kernel
theorem dX12_clause_173 : decode cX12_clause 173 = .ok (.invokevirtual 181, 3) := by decide +kernel
theorem dX12_clause_176 : decode cX12_clause 176 = .ok (.aload_n 0, 1) := by decide +kernel
theorem dX12_clause_177 : decode cX12_clause 177 = .ok (.invokevirtual 184, 3) := by decide +kernel
theorem dX12_clause_180 : decode cX12_clause 180 = .ok (.aload_n 0, 1) := by decide +kernel
theorem dX12_clause_181 : decode cX12_clause 181 = .ok (.invokevirtual 187, 3) := by decide +kernel
theorem dX12_clause_184 : decode cX12_clause 184 = .ok (.aload_n 0, 1) := by decide +kernel
theorem dX12_clause_185 : decode cX12_clause 185 = .ok (.getfield 28, 3) := by decide +kernel
theorem dX12_clause_188 : decode cX12_clause 188 = .ok (.iload_n 1, 1) := by decide +kernel
theorem dX12_clause_189 : decode cX12_clause 189 = .ok (.aload_n 0, 1) := by decide +kernel
theorem dX12_clause_190 : decode cX12_clause 190 = .ok (.getfield 25, 3) := by decide +kernel
theorem dX12_clause_193 : decode cX12_clause 193 = .ok (.iload_n 1, 1) := by decide +kernel
theorem dX12_clause_194 : decode cX12_clause 194 = .ok (.iaload, 1) := by decide +kernel
theorem dX12_clause_195 : decode cX12_clause 195 = .ok (.iastore, 1) := by decide +kernel
theorem dX12_clause_196 : decode cX12_clause 196 = .ok (.iload_n 2, 1) := by decide +kernel
theorem dX12_clause_197 : decode cX12_clause 197 = .ok (.ifCond .eq 54, 3) := by decide +kernel
theorem dX12_clause_200 : decode cX12_clause 200 = .ok (.aload_n 0, 1) := by decide +kernel
theorem dX12_clause_201 : decode cX12_clause 201 = .ok (.getfield 126, 3) := by decide +kernel
theorem dX12_clause_204 : decode cX12_clause 204 = .ok (.iconst (-1), 1) := by decide +kernel
theorem dX12_clause_205 : decode cX12_clause 205 = .ok (.if_icmp .ne 46, 3) := by decide +kernel
theorem dX12_clause_208 : decode cX12_clause 208 = .ok (.aload_n 0, 1) := by decide +kernel
theorem dX12_clause_209 : decode cX12_clause 209 = .ok (.invokevirtual 138, 3) := by decide +kernel
theorem dX12_clause_212 : decode cX12_clause 212 = .ok (.bipush 63, 2) := by decide +kernel
theorem dX12_clause_214 : decode cX12_clause 214 = .ok (.if_icmp .eq 8, 3) := by decide +kernel
theorem dX12_clause_217 : decode cX12_clause 217 = .ok (.aload_n 0, 1) := by decide +kernel
theorem dX12_clause_218 : decode cX12_clause 218 = .ok (.invokevirtual 135, 3) := by decide +kernel
theorem dX12_clause_221 : decode cX12_clause 221 = .ok (.return_, 1) := by decide +kernel
theorem dX12_clause_222 : decode cX12_clause 222 = .ok (.aload_n 0, 1) := by decide +kernel
theorem dX12_clause_223 : decode cX12_clause 223 = .ok (.dup, 1) := by decide +kernel
theorem dX12_clause_224 : decode cX12_clause 224 = .ok (.getfield 119, 3) := by decide +kernel
theorem dX12_clause_227 : decode cX12_clause 227 = .ok (.iconst 1, 1) := by decide +kernel
theorem dX12_clause_228 : decode cX12_clause 228 = .ok (.iadd, 1) := by decide +kernel
theorem dX12_clause_229 : decode cX12_clause 229 = .ok (.putfield 119, 3) := by decide +kernel
theorem dX12_clause_232 : decode cX12_clause 232 = .ok (.aload_n 0, 1) := by decide +kernel
theorem dX12_clause_233 : decode cX12_clause 233 = .ok (.getfield 28, 3) := by decide +kernel
theorem dX12_clause_236 : decode cX12_clause 236 = .ok (.iload_n 1, 1) := by decide +kernel
theorem dX12_clause_237 : decode cX12_clause 237 = .ok (.aload_n 0, 1) := by decide +kernel
theorem dX12_clause_238 : decode cX12_clause 238 = .ok (.getfield 19, 3) := by decide +kernel
theorem dX12_clause_241 : decode cX12_clause 241 = .ok (.aload_n 0, 1) := by decide +kernel
theorem dX12_clause_242 : decode cX12_clause 242 = .ok (.getfield 129, 3) := by decide +kernel
theorem dX12_clause_245 : decode cX12_clause 245 = .ok (.iaload, 1) := by decide +kernel
theorem dX12_clause_246 : decode cX12_clause 246 = .ok (.iastore, 1) := by decide +kernel
theorem dX12_clause_247 : decode cX12_clause 247 = .ok (.aload_n 0, 1) := by decide +kernel
theorem dX12_clause_248 : decode cX12_clause 248 = .ok (.invokevirtual 159, 3) := by decide +kernel
theorem dX12_clause_251 : decode cX12_clause 251 = .ok (.aload_n 0, 1) := by decide +kernel
theorem dX12_clause_252 : decode cX12_clause 252 = .ok (.getfield 31, 3) := by decide +kernel
theorem dX12_clause_255 : decode cX12_clause 255 = .ok (.iload_n 1, 1) := by decide +kernel
theorem dX12_clause_256 : decode cX12_clause 256 = .ok (.aload_n 0, 1) := by decide +kernel
theorem dX12_clause_257 : decode cX12_clause 257 = .ok (.getfield 19, 3) := by decide +kernel
theorem dX12_clause_260 : decode cX12_clause 260 = .ok (.aload_n 0, 1) := by decide +kernel
theorem dX12_clause_261 : decode cX12_clause 261 = .ok (.getfield 129, 3) := by decide +kernel
theorem dX12_clause_264 : decode cX12_clause 264 = .ok (.iaload, 1) := by decide +kernel
theorem dX12_clause_265 : decode cX12_clause 265 = .ok (.iastore, 1) := by decide +kernel
theorem dX12_clause_266 : decode cX12_clause 266 = .ok (.aload_n 0, 1) := by decide +kernel
theorem dX12_clause_267 : decode cX12_clause 267 = .ok (.getfield 22, 3) := by decide +kernel
theorem dX12_clause_270 : decode cX12_clause 270 = .ok (.aload_n 0, 1) := by decide +kernel
theorem dX12_clause_271 : decode cX12_clause 271 = .ok (.getfield 129, 3) := by decide +kernel
theorem dX12_clause_274 : decode cX12_clause 274 = .ok (.dup2, 1) := by decide +kernel
theorem dX12_clause_275 : decode cX12_clause 275 = .ok (.iaload, 1) := by decide +kernel
theorem dX12_clause_276 : decode cX12_clause 276 = .ok (.iconst 1, 1) := by decide +kernel
theorem dX12_clause_277 : decode cX12_clause 277 = .ok (.iadd, 1) := by decide +kernel
theorem dX12_clause_278 : decode cX12_clause 278 = .ok (.iastore, 1) := by decide +kernel
theorem dX12_clause_279 : decode cX12_clause 279 = .ok (.return_, 1) := by decide +kernel
set_option maxRecDepth 20000 in
def kX12_clause_0 (g : sk_G) (d ck sk : Nat) (Q : sk_P) : sk_K := o_i (140) (o_aload 0 (o_getf 12 14 (o_imul (o_aload 0 (o_getf 12 9 (o_aload 0 (o_getf 12 14 (o_iaload (o_iadd (o_istore 1 (o_aload 0 (o_getf 12 4 (o_i (-1) (o_icne (sk_B (g, d, ck, sk, xX12_clause, Q) 40) (o_aload 0 (o_invB (g, d, ck, sk, xX12_clause, Q) xX12_look 0 12 0 0 (o_i (121) (o_iceq (sk_B (g, d, ck, sk, xX12_clause, Q) 40) (o_aload 0 (o_invT (g, d, ck, sk, xX12_clause, Q) 1 0 12 (fun Q => kX12_bad_0 g (d - 1) 0 0 Q) (sk_B (g, d, ck, sk, xX12_clause, Q) 40)))))))))))))))))))))
set_option maxRecDepth 20000 in
theorem tX12_clause_0 {g : sk_G} {d ck sk : Nat} {Q : sk_P} : sk_S (g, d, ck, sk, xX12_clause, Q) 0 (kX12_clause_0 g d ck sk Q) := s_sipush dX12_clause_0 rfl (s_aload_n dX12_clause_3 rfl (s_getf (ci := 12) (j := 14) (C := RX12) (T := TX12) (N := 49) dX12_clause_4 rfl (by decide) (by decide) qf_X12_129 (s_imul dX12_clause_7 (s_aload_n dX12_clause_8 rfl (s_getf (ci := 12) (j := 9) (C := RX12) (T := TX12) (N := 49) dX12_clause_9 rfl (by decide) (by decide) qf_X12_22 (s_aload_n dX12_clause_12 rfl (s_getf (ci := 12) (j := 14) (C := RX12) (T := TX12) (N := 49) dX12_clause_13 rfl (by decide) (by decide) qf_X12_129 (s_iaload dX12_clause_16 (s_iadd dX12_clause_17 (s_istore_n dX12_clause_18 rfl (by decide : 1 < 3) (s_aload_n dX12_clause_19 rfl (s_getf (ci := 12) (j := 4) (C := RX12) (T := TX12) (N := 49) dX12_clause_20 rfl (by decide) (by decide) qf_X12_126 (s_iconst dX12_clause_23 (s_icne (tgt := 40) dX12_clause_24 (by decide) (sk_id) (s_aload_n dX12_clause_27 rfl (s_invB (w' := (g, d, ck, sk, xX12_clause, Q)) (ci := 12) (ck := 0) (sk := 0) (T := TX12) (N := 49) dX12_clause_28 m_X12_look rfl (by decide) qm_X12_138 qi_X12_look qe_X12_look rfl (s_bipush dX12_clause_31 rfl (s_iceq (tgt := 40) dX12_clause_33 (by decide) (sk_id) (s_aload_n dX12_clause_36 rfl (s_invT (X := xX12_bad) (ci := 12) (T := TX12) (N := 49) (K := (fun Q => kX12_bad_0 g (d - 1) 0 0 Q)) (fun _ => tX12_bad_0) rfl dX12_clause_37 m_X12_bad rfl (by decide) qm_X12_135 qi_X12_bad qe_X12_bad (sk_id)))))))))))))))))))))
set_option maxRecDepth 20000 in
def kX12_clause_40 (g : sk_G) (d ck sk : Nat) (Q : sk_P) : sk_K := o_aload 0 (o_dup (o_getf 12 3 (o_i (1) (o_iadd (o_puti 12 3 (o_aload 0 (o_getf 12 4 (o_i (-1) (o_icne (sk_B (g, d, ck, sk, xX12_clause, Q) 71) (o_aload 0 (o_invB (g, d, ck, sk, xX12_clause, Q) xX12_look 0 12 0 0 (o_i (58) (o_iceq (sk_B (g, d, ck, sk, xX12_clause, Q) 71) (o_aload 0 (o_invT (g, d, ck, sk, xX12_clause, Q) 1 0 12 (fun Q => kX12_bad_0 g (d - 1) 0 0 Q) (sk_B (g, d, ck, sk, xX12_clause, Q) 71))))))))))))))))
set_option maxRecDepth 20000 in
theorem tX12_clause_40 {g : sk_G} {d ck sk : Nat} {Q : sk_P} : sk_S (g, d, ck, sk, xX12_clause, Q) 40 (kX12_clause_40 g d ck sk Q) := s_aload_n dX12_clause_40 rfl (s_dup dX12_clause_41 (s_getf (ci := 12) (j := 3) (C := RX12) (T := TX12) (N := 49) dX12_clause_42 rfl (by decide) (by decide) qf_X12_119 (s_iconst dX12_clause_45 (s_iadd dX12_clause_46 (s_puti (ci := 12) (j := 3) (C := RX12) (T := TX12) (N := 49) dX12_clause_47 rfl (by decide) (by decide) rfl (tyX12_ok 3 (by decide)) qf_X12_119 (s_aload_n dX12_clause_50 rfl (s_getf (ci := 12) (j := 4) (C := RX12) (T := TX12) (N := 49) dX12_clause_51 rfl (by decide) (by decide) qf_X12_126 (s_iconst dX12_clause_54 (s_icne (tgt := 71) dX12_clause_55 (by decide) (sk_id) (s_aload_n dX12_clause_58 rfl (s_invB (w' := (g, d, ck, sk, xX12_clause, Q)) (ci := 12) (ck := 0) (sk := 0) (T := TX12) (N := 49) dX12_clause_59 m_X12_look rfl (by decide) qm_X12_138 qi_X12_look qe_X12_look rfl (s_bipush dX12_clause_62 rfl (s_iceq (tgt := 71) dX12_clause_64 (by decide) (sk_id) (s_aload_n dX12_clause_67 rfl (s_invT (X := xX12_bad) (ci := 12) (T := TX12) (N := 49) (K := (fun Q => kX12_bad_0 g (d - 1) 0 0 Q)) (fun _ => tX12_bad_0) rfl dX12_clause_68 m_X12_bad rfl (by decide) qm_X12_135 qi_X12_bad qe_X12_bad (sk_id))))))))))))))))
set_option maxRecDepth 20000 in
def kX12_clause_71 (g : sk_G) (d ck sk : Nat) (Q : sk_P) : sk_K := o_aload 0 (o_dup (o_getf 12 3 (o_i (1) (o_iadd (o_puti 12 3 (o_aload 0 (o_getf 12 4 (o_i (-1) (o_iceq (o_aload 0 (o_getf 12 10 (o_iload 1 (o_aload 0 (o_getf 12 8 (o_aload 0 (o_getf 12 14 (o_iaload (o_iastore (o_aload 0 (o_invB (g, d, ck, sk, xX12_clause, Q) xX12_look 0 12 0 0 (o_i (33) (o_iceq (o_i (1) (sk_B (g, d, ck, sk, xX12_clause, Q) 128)) (o_aload 0 (o_invB (g, d, ck, sk, xX12_clause, Q) xX12_look 0 12 0 0 (o_i (40) (o_icne (o_i (0) (sk_B (g, d, ck, sk, xX12_clause, Q) 128)) (o_i (1) (sk_B (g, d, ck, sk, xX12_clause, Q) 128))))))))))))))))))) (o_ret (g, d, ck, sk, xX12_clause, Q)))))))))))
set_option maxRecDepth 20000 in
theorem tX12_clause_71 {g : sk_G} {d ck sk : Nat} {Q : sk_P} : sk_S (g, d, ck, sk, xX12_clause, Q) 71 (kX12_clause_71 g d ck sk Q) := s_aload_n dX12_clause_71 rfl (s_dup dX12_clause_72 (s_getf (ci := 12) (j := 3) (C := RX12) (T := TX12) (N := 49) dX12_clause_73 rfl (by decide) (by decide) qf_X12_119 (s_iconst dX12_clause_76 (s_iadd dX12_clause_77 (s_puti (ci := 12) (j := 3) (C := RX12) (T := TX12) (N := 49) dX12_clause_78 rfl (by decide) (by decide) rfl (tyX12_ok 3 (by decide)) qf_X12_119 (s_aload_n dX12_clause_81 rfl (s_getf (ci := 12) (j := 4) (C := RX12) (T := TX12) (N := 49) dX12_clause_82 rfl (by decide) (by decide) qf_X12_126 (s_iconst dX12_clause_85 (s_iceq (tgt := 90) dX12_clause_86 (by decide) (s_aload_n dX12_clause_90 rfl (s_getf (ci := 12) (j := 10) (C := RX12) (T := TX12) (N := 49) dX12_clause_91 rfl (by decide) (by decide) qf_X12_25 (s_iload_n dX12_clause_94 rfl (s_aload_n dX12_clause_95 rfl (s_getf (ci := 12) (j := 8) (C := RX12) (T := TX12) (N := 49) dX12_clause_96 rfl (by decide) (by decide) qf_X12_19 (s_aload_n dX12_clause_99 rfl (s_getf (ci := 12) (j := 14) (C := RX12) (T := TX12) (N := 49) dX12_clause_100 rfl (by decide) (by decide) qf_X12_129 (s_iaload dX12_clause_103 (s_iastore dX12_clause_104 (s_aload_n dX12_clause_105 rfl (s_invB (w' := (g, d, ck, sk, xX12_clause, Q)) (ci := 12) (ck := 0) (sk := 0) (T := TX12) (N := 49) dX12_clause_106 m_X12_look rfl (by decide) qm_X12_138 qi_X12_look qe_X12_look rfl (s_bipush dX12_clause_109 rfl (s_iceq (tgt := 123) dX12_clause_111 (by decide) (s_iconst dX12_clause_123 (s_goto (tgt := 128) dX12_clause_124 (by decide) (sk_id))) (s_aload_n dX12_clause_114 rfl (s_invB (w' := (g, d, ck, sk, xX12_clause, Q)) (ci := 12) (ck := 0) (sk := 0) (T := TX12) (N := 49) dX12_clause_115 m_X12_look rfl (by decide) qm_X12_138 qi_X12_look qe_X12_look rfl (s_bipush dX12_clause_118 rfl (s_icne (tgt := 127) dX12_clause_120 (by decide) (s_iconst dX12_clause_127 (sk_id)) (s_iconst dX12_clause_123 (s_goto (tgt := 128) dX12_clause_124 (by decide) (sk_id)))))))))))))))))))) (s_ret dX12_clause_89 rfl))))))))))
set_option maxRecDepth 20000 in
def kX12_clause_128 (g : sk_G) (d ck sk : Nat) (Q : sk_P) : sk_K := o_istore 2 (o_iload 2 (o_ifeq (o_aload 0 (o_invB (g, d, ck, sk, xX12_clause, Q) xX12_sum 0 12 0 0 (o_aload 0 (o_getf 12 4 (o_i (-1) (o_icne (o_i (0) (sk_B (g, d, ck, sk, xX12_clause, Q) 167)) (o_aload 0 (o_invB (g, d, ck, sk, xX12_clause, Q) xX12_look 0 12 0 0 (o_stcT (g, d, ck, sk, xX12_clause, Q) 1 1 (fun Q => kX12_isSign_0 g (d - 1) 0 0 Q) (o_ifeq (o_i (0) (sk_B (g, d, ck, sk, xX12_clause, Q) 167)) (o_i (1) (sk_B (g, d, ck, sk, xX12_clause, Q) 167)))))))))))) (o_aload 0 (o_invB (g, d, ck, sk, xX12_clause, Q) xX12_condition 0 12 0 0 (sk_B (g, d, ck, sk, xX12_clause, Q) 184)))))
set_option maxRecDepth 20000 in
theorem tX12_clause_128 {g : sk_G} {d ck sk : Nat} {Q : sk_P} : sk_S (g, d, ck, sk, xX12_clause, Q) 128 (kX12_clause_128 g d ck sk Q) := s_istore_n dX12_clause_128 rfl (by decide : 2 < 3) (s_iload_n dX12_clause_129 rfl (s_ifeq (tgt := 140) dX12_clause_130 (by decide) (s_aload_n dX12_clause_140 rfl (s_invB (w' := (g, d, ck, sk, xX12_clause, Q)) (ci := 12) (ck := 0) (sk := 0) (T := TX12) (N := 49) dX12_clause_141 m_X12_sum rfl (by decide) qm_X12_159 qi_X12_sum qe_X12_sum rfl (s_aload_n dX12_clause_144 rfl (s_getf (ci := 12) (j := 4) (C := RX12) (T := TX12) (N := 49) dX12_clause_145 rfl (by decide) (by decide) qf_X12_126 (s_iconst dX12_clause_148 (s_icne (tgt := 166) dX12_clause_149 (by decide) (s_iconst dX12_clause_166 (sk_id)) (s_aload_n dX12_clause_152 rfl (s_invB (w' := (g, d, ck, sk, xX12_clause, Q)) (ci := 12) (ck := 0) (sk := 0) (T := TX12) (N := 49) dX12_clause_153 m_X12_look rfl (by decide) qm_X12_138 qi_X12_look qe_X12_look rfl (s_stcT (X := xX12_isSign) (K := (fun Q => kX12_isSign_0 g (d - 1) 0 0 Q)) (fun _ => tX12_isSign_0) rfl dX12_clause_156 m_X12_isSign qm_X12_172 qs_X12_isSign (s_ifeq (tgt := 166) dX12_clause_159 (by decide) (s_iconst dX12_clause_166 (sk_id)) (s_iconst dX12_clause_162 (s_goto (tgt := 167) dX12_clause_163 (by decide) (sk_id))))))))))))) (s_aload_n dX12_clause_133 rfl (s_invB (w' := (g, d, ck, sk, xX12_clause, Q)) (ci := 12) (ck := 0) (sk := 0) (T := TX12) (N := 49) dX12_clause_134 m_X12_condition rfl (by decide) qm_X12_178 qi_X12_condition qe_X12_condition rfl (s_goto (tgt := 184) dX12_clause_137 (by decide) (sk_id))))))
set_option maxRecDepth 20000 in
def kX12_clause_167 (g : sk_G) (d ck sk : Nat) (Q : sk_P) : sk_K := o_istore 2 (o_iload 2 (o_ifeq (sk_B (g, d, ck, sk, xX12_clause, Q) 184) (o_aload 0 (o_invB (g, d, ck, sk, xX12_clause, Q) xX12_compare 0 12 0 0 (o_aload 0 (o_invB (g, d, ck, sk, xX12_clause, Q) xX12_goOnAnd 0 12 0 0 (o_aload 0 (o_invB (g, d, ck, sk, xX12_clause, Q) xX12_goOnOr 0 12 0 0 (sk_B (g, d, ck, sk, xX12_clause, Q) 184)))))))))
set_option maxRecDepth 20000 in
theorem tX12_clause_167 {g : sk_G} {d ck sk : Nat} {Q : sk_P} : sk_S (g, d, ck, sk, xX12_clause, Q) 167 (kX12_clause_167 g d ck sk Q) := s_istore_n dX12_clause_167 rfl (by decide : 2 < 3) (s_iload_n dX12_clause_168 rfl (s_ifeq (tgt := 184) dX12_clause_169 (by decide) (sk_id) (s_aload_n dX12_clause_172 rfl (s_invB (w' := (g, d, ck, sk, xX12_clause, Q)) (ci := 12) (ck := 0) (sk := 0) (T := TX12) (N := 49) dX12_clause_173 m_X12_compare rfl (by decide) qm_X12_181 qi_X12_compare qe_X12_compare rfl (s_aload_n dX12_clause_176 rfl (s_invB (w' := (g, d, ck, sk, xX12_clause, Q)) (ci := 12) (ck := 0) (sk := 0) (T := TX12) (N := 49) dX12_clause_177 m_X12_goOnAnd rfl (by decide) qm_X12_184 qi_X12_goOnAnd qe_X12_goOnAnd rfl (s_aload_n dX12_clause_180 rfl (s_invB (w' := (g, d, ck, sk, xX12_clause, Q)) (ci := 12) (ck := 0) (sk := 0) (T := TX12) (N := 49) dX12_clause_181 m_X12_goOnOr rfl (by decide) qm_X12_187 qi_X12_goOnOr qe_X12_goOnOr rfl (sk_id)))))))))
set_option maxRecDepth 20000 in
def kX12_clause_184 (g : sk_G) (d ck sk : Nat) (Q : sk_P) : sk_K := o_aload 0 (o_getf 12 11 (o_iload 1 (o_aload 0 (o_getf 12 10 (o_iload 1 (o_iaload (o_iastore (o_iload 2 (o_ifeq (sk_B (g, d, ck, sk, xX12_clause, Q) 251) (o_aload 0 (o_getf 12 4 (o_i (-1) (o_icne (sk_B (g, d, ck, sk, xX12_clause, Q) 251) (o_aload 0 (o_invB (g, d, ck, sk, xX12_clause, Q) xX12_look 0 12 0 0 (o_i (63) (o_iceq (o_aload 0 (o_dup (o_getf 12 3 (o_i (1) (o_iadd (o_puti 12 3 (o_aload 0 (o_getf 12 11 (o_iload 1 (o_aload 0 (o_getf 12 8 (o_aload 0 (o_getf 12 14 (o_iaload (o_iastore (o_aload 0 (o_invB (g, d, ck, sk, xX12_clause, Q) xX12_sum 0 12 0 0 (sk_B (g, d, ck, sk, xX12_clause, Q) 251)))))))))))))))))) (o_aload 0 (o_invT (g, d, ck, sk, xX12_clause, Q) 1 0 12 (fun Q => kX12_bad_0 g (d - 1) 0 0 Q) (o_ret (g, d, ck, sk, xX12_clause, Q)))))))))))))))))))))
set_option maxRecDepth 20000 in
theorem tX12_clause_184 {g : sk_G} {d ck sk : Nat} {Q : sk_P} : sk_S (g, d, ck, sk, xX12_clause, Q) 184 (kX12_clause_184 g d ck sk Q) := s_aload_n dX12_clause_184 rfl (s_getf (ci := 12) (j := 11) (C := RX12) (T := TX12) (N := 49) dX12_clause_185 rfl (by decide) (by decide) qf_X12_28 (s_iload_n dX12_clause_188 rfl (s_aload_n dX12_clause_189 rfl (s_getf (ci := 12) (j := 10) (C := RX12) (T := TX12) (N := 49) dX12_clause_190 rfl (by decide) (by decide) qf_X12_25 (s_iload_n dX12_clause_193 rfl (s_iaload dX12_clause_194 (s_iastore dX12_clause_195 (s_iload_n dX12_clause_196 rfl (s_ifeq (tgt := 251) dX12_clause_197 (by decide) (sk_id) (s_aload_n dX12_clause_200 rfl (s_getf (ci := 12) (j := 4) (C := RX12) (T := TX12) (N := 49) dX12_clause_201 rfl (by decide) (by decide) qf_X12_126 (s_iconst dX12_clause_204 (s_icne (tgt := 251) dX12_clause_205 (by decide) (sk_id) (s_aload_n dX12_clause_208 rfl (s_invB (w' := (g, d, ck, sk, xX12_clause, Q)) (ci := 12) (ck := 0) (sk := 0) (T := TX12) (N := 49) dX12_clause_209 m_X12_look rfl (by decide) qm_X12_138 qi_X12_look qe_X12_look rfl (s_bipush dX12_clause_212 rfl (s_iceq (tgt := 222) dX12_clause_214 (by decide) (s_aload_n dX12_clause_222 rfl (s_dup dX12_clause_223 (s_getf (ci := 12) (j := 3) (C := RX12) (T := TX12) (N := 49) dX12_clause_224 rfl (by decide) (by decide) qf_X12_119 (s_iconst dX12_clause_227 (s_iadd dX12_clause_228 (s_puti (ci := 12) (j := 3) (C := RX12) (T := TX12) (N := 49) dX12_clause_229 rfl (by decide) (by decide) rfl (tyX12_ok 3 (by decide)) qf_X12_119 (s_aload_n dX12_clause_232 rfl (s_getf (ci := 12) (j := 11) (C := RX12) (T := TX12) (N := 49) dX12_clause_233 rfl (by decide) (by decide) qf_X12_28 (s_iload_n dX12_clause_236 rfl (s_aload_n dX12_clause_237 rfl (s_getf (ci := 12) (j := 8) (C := RX12) (T := TX12) (N := 49) dX12_clause_238 rfl (by decide) (by decide) qf_X12_19 (s_aload_n dX12_clause_241 rfl (s_getf (ci := 12) (j := 14) (C := RX12) (T := TX12) (N := 49) dX12_clause_242 rfl (by decide) (by decide) qf_X12_129 (s_iaload dX12_clause_245 (s_iastore dX12_clause_246 (s_aload_n dX12_clause_247 rfl (s_invB (w' := (g, d, ck, sk, xX12_clause, Q)) (ci := 12) (ck := 0) (sk := 0) (T := TX12) (N := 49) dX12_clause_248 m_X12_sum rfl (by decide) qm_X12_159 qi_X12_sum qe_X12_sum rfl (sk_id)))))))))))))))))) (s_aload_n dX12_clause_217 rfl (s_invT (X := xX12_bad) (ci := 12) (T := TX12) (N := 49) (K := (fun Q => kX12_bad_0 g (d - 1) 0 0 Q)) (fun _ => tX12_bad_0) rfl dX12_clause_218 m_X12_bad rfl (by decide) qm_X12_135 qi_X12_bad qe_X12_bad (s_ret dX12_clause_221 rfl))))))))))))))))))))
set_option maxRecDepth 20000 in
def kX12_clause_251 (g : sk_G) (d ck sk : Nat) (Q : sk_P) : sk_K := o_aload 0 (o_getf 12 12 (o_iload 1 (o_aload 0 (o_getf 12 8 (o_aload 0 (o_getf 12 14 (o_iaload (o_iastore (o_aload 0 (o_getf 12 9 (o_aload 0 (o_getf 12 14 (o_dup2 (o_iaload (o_i (1) (o_iadd (o_iastore (o_ret (g, d, ck, sk, xX12_clause, Q)))))))))))))))))))
set_option maxRecDepth 20000 in
theorem tX12_clause_251 {g : sk_G} {d ck sk : Nat} {Q : sk_P} : sk_S (g, d, ck, sk, xX12_clause, Q) 251 (kX12_clause_251 g d ck sk Q) := s_aload_n dX12_clause_251 rfl (s_getf (ci := 12) (j := 12) (C := RX12) (T := TX12) (N := 49) dX12_clause_252 rfl (by decide) (by decide) qf_X12_31 (s_iload_n dX12_clause_255 rfl (s_aload_n dX12_clause_256 rfl (s_getf (ci := 12) (j := 8) (C := RX12) (T := TX12) (N := 49) dX12_clause_257 rfl (by decide) (by decide) qf_X12_19 (s_aload_n dX12_clause_260 rfl (s_getf (ci := 12) (j := 14) (C := RX12) (T := TX12) (N := 49) dX12_clause_261 rfl (by decide) (by decide) qf_X12_129 (s_iaload dX12_clause_264 (s_iastore dX12_clause_265 (s_aload_n dX12_clause_266 rfl (s_getf (ci := 12) (j := 9) (C := RX12) (T := TX12) (N := 49) dX12_clause_267 rfl (by decide) (by decide) qf_X12_22 (s_aload_n dX12_clause_270 rfl (s_getf (ci := 12) (j := 14) (C := RX12) (T := TX12) (N := 49) dX12_clause_271 rfl (by decide) (by decide) qf_X12_129 (s_dup2 dX12_clause_274 (s_iaload dX12_clause_275 (s_iconst dX12_clause_276 (s_iadd dX12_clause_277 (s_iastore dX12_clause_278 (s_ret dX12_clause_279 rfl))))))))))))))))))
theorem dX12_condition_0 : decode cX12_condition 0 = .ok (.aload_n 0, 1) := by decide +kernel
theorem dX12_condition_1 : decode cX12_condition 1 = .ok (.invokevirtual 175, 3) := by decide +kernel
theorem dX12_condition_4 : decode cX12_condition 4 = .ok (.aload_n 0, 1) := by decide +kernel
theorem dX12_condition_5 : decode cX12_condition 5 = .ok (.invokevirtual 184, 3) := by decide +kernel
theorem dX12_condition_8 : decode cX12_condition 8 = .ok (.aload_n 0, 1) := by decide +kernel
theorem dX12_condition_9 : decode cX12_condition 9 = .ok (.invokevirtual 187, 3) := by decide +kernel
theorem dX12_condition_12 : decode cX12_condition 12 = .ok (.return_, 1) := by decide +kernel
set_option maxRecDepth 20000 in
def kX12_condition_0 (g : sk_G) (d ck sk : Nat) (Q : sk_P) : sk_K := o_aload 0 (o_invB (g, d, ck, sk, xX12_condition, Q) xX12_unit 0 12 0 0 (o_aload 0 (o_invB (g, d, ck, sk, xX12_condition, Q) xX12_goOnAnd 0 12 0 0 (o_aload 0 (o_invB (g, d, ck, sk, xX12_condition, Q) xX12_goOnOr 0 12 0 0 (o_ret (g, d, ck, sk, xX12_condition, Q)))))))
set_option maxRecDepth 20000 in
theorem tX12_condition_0 {g : sk_G} {d ck sk : Nat} {Q : sk_P} : sk_S (g, d, ck, sk, xX12_condition, Q) 0 (kX12_condition_0 g d ck sk Q) := s_aload_n dX12_condition_0 rfl (s_invB (w' := (g, d, ck, sk, xX12_condition, Q)) (ci := 12) (ck := 0) (sk := 0) (T := TX12) (N := 49) dX12_condition_1 m_X12_unit rfl (by decide) qm_X12_175 qi_X12_unit qe_X12_unit rfl (s_aload_n dX12_condition_4 rfl (s_invB (w' := (g, d, ck, sk, xX12_condition, Q)) (ci := 12) (ck := 0) (sk := 0) (T := TX12) (N := 49) dX12_condition_5 m_X12_goOnAnd rfl (by decide) qm_X12_184 qi_X12_goOnAnd qe_X12_goOnAnd rfl (s_aload_n dX12_condition_8 rfl (s_invB (w' := (g, d, ck, sk, xX12_condition, Q)) (ci := 12) (ck := 0) (sk := 0) (T := TX12) (N := 49) dX12_condition_9 m_X12_goOnOr rfl (by decide) qm_X12_187 qi_X12_goOnOr qe_X12_goOnOr rfl (s_ret dX12_condition_12 rfl))))))
theorem dX12_unit_0 : decode cX12_unit 0 = .ok (.aload_n 0, 1) := by decide +kernel
theorem dX12_unit_1 : decode cX12_unit 1 = .ok (.invokevirtual 138, 3) := by decide +kernel
theorem dX12_unit_4 : decode cX12_unit 4 = .ok (.istore_n 1, 1) := by decide +kernel
theorem dX12_unit_5 : decode cX12_unit 5 = .ok (.iload_n 1, 1) := by decide +kernel
theorem dX12_unit_6 : decode cX12_unit 6 = .ok (.bipush 33, 2) := by decide +kernel
theorem dX12_unit_8 : decode cX12_unit 8 = .ok (.if_icmp .ne 39, 3) := by decide +kernel
theorem dX12_unit_11 : decode cX12_unit 11 = .ok (.aload_n 0, 1) := by decide +kernel
theorem dX12_unit_12 : decode cX12_unit 12 = .ok (.invokevirtual 156, 3) := by decide +kernel
theorem dX12_unit_15 : decode cX12_unit 15 = .ok (.aload_n 0, 1) := by decide +kernel
theorem dX12_unit_16 : decode cX12_unit 16 = .ok (.getfield 126, 3) := by decide +kernel
theorem dX12_unit_19 : decode cX12_unit 19 = .ok (.iconst (-1), 1) := by decide +kernel
theorem dX12_unit_20 : decode cX12_unit 20 = .ok (.if_icmp .ne 74, 3) := by decide +kernel
theorem dX12_unit_23 : decode cX12_unit 23 = .ok (.aload_n 0, 1) := by decide +kernel
theorem dX12_unit_24 : decode cX12_unit 24 = .ok (.invokevirtual 175, 3) := by decide +kernel
theorem dX12_unit_27 : decode cX12_unit 27 = .ok (.aload_n 0, 1) := by decide +kernel
theorem dX12_unit_28 : decode cX12_unit 28 = .ok (.bipush 9, 2) := by decide +kernel
theorem dX12_unit_30 : decode cX12_unit 30 = .ok (.iconst 0, 1) := by decide +kernel
theorem dX12_unit_31 : decode cX12_unit 31 = .ok (.invokevirtual 148, 3) := by decide +kernel
theorem dX12_unit_34 : decode cX12_unit 34 = .ok (.aload_n 0, 1) := by decide +kernel
theorem dX12_unit_35 : decode cX12_unit 35 = .ok (.dup, 1) := by decide +kernel
theorem dX12_unit_36 : decode cX12_unit 36 = .ok (.getfield 132, 3) := by decide +kernel
theorem dX12_unit_39 : decode cX12_unit 39 = .ok (.iconst 1, 1) := by decide +kernel
theorem dX12_unit_40 : decode cX12_unit 40 = .ok (.isub, 1) := by decide +kernel
theorem dX12_unit_41 : decode cX12_unit 41 = .ok (.putfield 132, 3) := by decide +kernel
theorem dX12_unit_44 : decode cX12_unit 44 = .ok (.goto 50, 3) := by decide +kernel
theorem dX12_unit_47 : decode cX12_unit 47 = .ok (.iload_n 1, 1) := by decide +kernel
theorem dX12_unit_48 : decode cX12_unit 48 = .ok (.bipush 40, 2) := by decide +kernel
theorem dX12_unit_50 : decode cX12_unit 50 = .ok (.if_icmp .ne 28, 3) := by decide +kernel
theorem dX12_unit_53 : decode cX12_unit 53 = .ok (.aload_n 0, 1) := by decide +kernel
theorem dX12_unit_54 : decode cX12_unit 54 = .ok (.invokevirtual 156, 3) := by decide +kernel
theorem dX12_unit_57 : decode cX12_unit 57 = .ok (.aload_n 0, 1) := by decide +kernel
theorem dX12_unit_58 : decode cX12_unit 58 = .ok (.getfield 126, 3) := by decide +kernel
theorem dX12_unit_61 : decode cX12_unit 61 = .ok (.iconst (-1), 1) := by decide +kernel
theorem dX12_unit_62 : decode cX12_unit 62 = .ok (.if_icmp .ne 32, 3) := by decide +kernel
theorem dX12_unit_65 : decode cX12_unit 65 = .ok (.aload_n 0, 1) := by decide +kernel
theorem dX12_unit_66 : decode cX12_unit 66 = .ok (.invokevirtual 178, 3) := by decide +kernel
theorem dX12_unit_69 : decode cX12_unit 69 = .ok (.aload_n 0, 1) := by decide +kernel
theorem dX12_unit_70 : decode cX12_unit 70 = .ok (.bipush 41, 2) := by decide +kernel
theorem dX12_unit_72 : decode cX12_unit 72 = .ok (.invokevirtual 162, 3) := by decide +kernel
theorem dX12_unit_75 : decode cX12_unit 75 = .ok (.goto 19, 3) := by decide +kernel
theorem dX12_unit_78 : decode cX12_unit 78 = .ok (.aload_n 0, 1) := by decide +kernel
theorem dX12_unit_79 : decode cX12_unit 79 = .ok (.invokevirtual 159, 3) := by decide +kernel
theorem dX12_unit_82 : decode cX12_unit 82 = .ok (.aload_n 0, 1) := by decide +kernel
theorem dX12_unit_83 : decode cX12_unit 83 = .ok (.getfield 126, 3) := by decide +kernel
theorem dX12_unit_86 : decode cX12_unit 86 = .ok (.iconst (-1), 1) := by decide +kernel
theorem dX12_unit_87 : decode cX12_unit 87 = .ok (.if_icmp .ne 7, 3) := by decide +kernel
theorem dX12_unit_90 : decode cX12_unit 90 = .ok (.aload_n 0, 1) := by decide +kernel
theorem dX12_unit_91 : decode cX12_unit 91 = .ok (.invokevirtual 181, 3) := by decide +kernel
theorem dX12_unit_94 : decode cX12_unit 94 = .ok (.return_, 1) := by decide +kernel
set_option maxRecDepth 20000 in
def kX12_unit_0 (g : sk_G) (d ck sk : Nat) (Q : sk_P) : sk_K := o_aload 0 (o_invB (g, d, ck, sk, xX12_unit, Q) xX12_look 0 12 0 0 (o_istore 1 (o_iload 1 (o_i (33) (o_icne (o_iload 1 (o_i (40) (o_icne (o_aload 0 (o_invB (g, d, ck, sk, xX12_unit, Q) xX12_sum 0 12 0 0 (o_aload 0 (o_getf 12 4 (o_i (-1) (o_icne (o_ret (g, d, ck, sk, xX12_unit, Q)) (o_aload 0 (o_invB (g, d, ck, sk, xX12_unit, Q) xX12_compare 0 12 0 0 (o_ret (g, d, ck, sk, xX12_unit, Q)))))))))) (o_aload 0 (o_invB (g, d, ck, sk, xX12_unit, Q) xX12_opens 0 12 0 0 (o_aload 0 (o_getf 12 4 (o_i (-1) (o_icne (o_ret (g, d, ck, sk, xX12_unit, Q)) (o_aload 0 (o_invB (g, d, ck, sk, xX12_unit, Q) xX12_condition 0 12 0 0 (o_aload 0 (o_i (41) (o_invB (g, d, ck, sk, xX12_unit, Q) xX12_closes 1 12 0 0 (o_ret (g, d, ck, sk, xX12_unit, Q)))))))))))))))) (o_aload 0 (o_invB (g, d, ck, sk, xX12_unit, Q) xX12_opens 0 12 0 0 (o_aload 0 (o_getf 12 4 (o_i (-1) (o_icne (o_ret (g, d, ck, sk, xX12_unit, Q)) (o_aload 0 (o_invB (g, d, ck, sk, xX12_unit, Q) xX12_unit 0 12 0 0 (o_aload 0 (o_i (9) (o_i (0) (o_invB (g, d, ck, sk, xX12_unit, Q) xX12_put 2 12 0 0 (o_aload 0 (o_dup (o_getf 12 5 (o_i (1) (o_isub (o_puti 12 5 (o_ret (g, d, ck, sk, xX12_unit, Q)))))))))))))))))))))))))
set_option maxRecDepth 20000 in
theorem tX12_unit_0 {g : sk_G} {d ck sk : Nat} {Q : sk_P} : sk_S (g, d, ck, sk, xX12_unit, Q) 0 (kX12_unit_0 g d ck sk Q) := s_aload_n dX12_unit_0 rfl (s_invB (w' := (g, d, ck, sk, xX12_unit, Q)) (ci := 12) (ck := 0) (sk := 0) (T := TX12) (N := 49) dX12_unit_1 m_X12_look rfl (by decide) qm_X12_138 qi_X12_look qe_X12_look rfl (s_istore_n dX12_unit_4 rfl (by decide : 1 < 2) (s_iload_n dX12_unit_5 rfl (s_bipush dX12_unit_6 rfl (s_icne (tgt := 47) dX12_unit_8 (by decide) (s_iload_n dX12_unit_47 rfl (s_bipush dX12_unit_48 rfl (s_icne (tgt := 78) dX12_unit_50 (by decide) (s_aload_n dX12_unit_78 rfl (s_invB (w' := (g, d, ck, sk, xX12_unit, Q)) (ci := 12) (ck := 0) (sk := 0) (T := TX12) (N := 49) dX12_unit_79 m_X12_sum rfl (by decide) qm_X12_159 qi_X12_sum qe_X12_sum rfl (s_aload_n dX12_unit_82 rfl (s_getf (ci := 12) (j := 4) (C := RX12) (T := TX12) (N := 49) dX12_unit_83 rfl (by decide) (by decide) qf_X12_126 (s_iconst dX12_unit_86 (s_icne (tgt := 94) dX12_unit_87 (by decide) (s_ret dX12_unit_94 rfl) (s_aload_n dX12_unit_90 rfl (s_invB (w' := (g, d, ck, sk, xX12_unit, Q)) (ci := 12) (ck := 0) (sk := 0) (T := TX12) (N := 49) dX12_unit_91 m_X12_compare rfl (by decide) qm_X12_181 qi_X12_compare qe_X12_compare rfl (s_ret dX12_unit_94 rfl))))))))) (s_aload_n dX12_unit_53 rfl (s_invB (w' := (g, d, ck, sk, xX12_unit, Q)) (ci := 12) (ck := 0) (sk := 0) (T := TX12) (N := 49) dX12_unit_54 m_X12_opens rfl (by decide) qm_X12_156 qi_X12_opens qe_X12_opens rfl (s_aload_n dX12_unit_57 rfl (s_getf (ci := 12) (j := 4) (C := RX12) (T := TX12) (N := 49) dX12_unit_58 rfl (by decide) (by decide) qf_X12_126 (s_iconst dX12_unit_61 (s_icne (tgt := 94) dX12_unit_62 (by decide) (s_ret dX12_unit_94 rfl) (s_aload_n dX12_unit_65 rfl (s_invB (w' := (g, d, ck, sk, xX12_unit, Q)) (ci := 12) (ck := 0) (sk := 0) (T := TX12) (N := 49) dX12_unit_66 m_X12_condition rfl (by decide) qm_X12_178 qi_X12_condition qe_X12_condition rfl (s_aload_n dX12_unit_69 rfl (s_bipush dX12_unit_70 rfl (s_invB (w' := (g, d, ck, sk, xX12_unit, Q)) (ci := 12) (ck := 0) (sk := 0) (T := TX12) (N := 49) dX12_unit_72 m_X12_closes rfl (by decide) qm_X12_162 qi_X12_closes qe_X12_closes rfl (s_goto (tgt := 94) dX12_unit_75 (by decide) (s_ret dX12_unit_94 rfl)))))))))))))))) (s_aload_n dX12_unit_11 rfl (s_invB (w' := (g, d, ck, sk, xX12_unit, Q)) (ci := 12) (ck := 0) (sk := 0) (T := TX12) (N := 49) dX12_unit_12 m_X12_opens rfl (by decide) qm_X12_156 qi_X12_opens qe_X12_opens rfl (s_aload_n dX12_unit_15 rfl (s_getf (ci := 12) (j := 4) (C := RX12) (T := TX12) (N := 49) dX12_unit_16 rfl (by decide) (by decide) qf_X12_126 (s_iconst dX12_unit_19 (s_icne (tgt := 94) dX12_unit_20 (by decide) (s_ret dX12_unit_94 rfl) (s_aload_n dX12_unit_23 rfl (s_invB (w' := (g, d, ck, sk, xX12_unit, Q)) (ci := 12) (ck := 0) (sk := 0) (T := TX12) (N := 49) dX12_unit_24 m_X12_unit rfl (by decide) qm_X12_175 qi_X12_unit qe_X12_unit rfl (s_aload_n dX12_unit_27 rfl (s_bipush dX12_unit_28 rfl (s_iconst dX12_unit_30 (s_invB (w' := (g, d, ck, sk, xX12_unit, Q)) (ci := 12) (ck := 0) (sk := 0) (T := TX12) (N := 49) dX12_unit_31 m_X12_put rfl (by decide) qm_X12_148 qi_X12_put qe_X12_put rfl (s_aload_n dX12_unit_34 rfl (s_dup dX12_unit_35 (s_getf (ci := 12) (j := 5) (C := RX12) (T := TX12) (N := 49) dX12_unit_36 rfl (by decide) (by decide) qf_X12_132 (s_iconst dX12_unit_39 (s_isub dX12_unit_40 (s_puti (ci := 12) (j := 5) (C := RX12) (T := TX12) (N := 49) dX12_unit_41 rfl (by decide) (by decide) rfl (tyX12_ok 5 (by decide)) qf_X12_132 (s_goto (tgt := 94) dX12_unit_44 (by decide) (s_ret dX12_unit_94 rfl)))))))))))))))))))))))))
theorem dX12_opens_0 : decode cX12_opens 0 = .ok (.aload_n 0, 1) := by decide +kernel
theorem dX12_opens_1 : decode cX12_opens 1 = .ok (.getfield 132, 3) := by decide +kernel
theorem dX12_opens_4 : decode cX12_opens 4 = .ok (.bipush 6, 2) := by decide +kernel
theorem dX12_opens_6 : decode cX12_opens 6 = .ok (.if_icmp .ne 7, 3) := by decide +kernel
theorem dX12_opens_9 : decode cX12_opens 9 = .ok (.aload_n 0, 1) := by decide +kernel
theorem dX12_opens_10 : decode cX12_opens 10 = .ok (.invokevirtual 135, 3) := by decide +kernel
theorem dX12_opens_13 : decode cX12_opens 13 = .ok (.aload_n 0, 1) := by decide +kernel
theorem dX12_opens_14 : decode cX12_opens 14 = .ok (.dup, 1) := by decide +kernel
theorem dX12_opens_15 : decode cX12_opens 15 = .ok (.getfield 132, 3) := by decide +kernel
theorem dX12_opens_18 : decode cX12_opens 18 = .ok (.iconst 1, 1) := by decide +kernel
theorem dX12_opens_19 : decode cX12_opens 19 = .ok (.iadd, 1) := by decide +kernel
theorem dX12_opens_20 : decode cX12_opens 20 = .ok (.putfield 132, 3) := by decide +kernel
theorem dX12_opens_23 : decode cX12_opens 23 = .ok (.aload_n 0, 1) := by decide +kernel
theorem dX12_opens_24 : decode cX12_opens 24 = .ok (.dup, 1) := by decide +kernel
theorem dX12_opens_25 : decode cX12_opens 25 = .ok (.getfield 119, 3) := by decide +kernel
theorem dX12_opens_28 : decode cX12_opens 28 = .ok (.iconst 1, 1) := by decide +kernel
theorem dX12_opens_29 : decode cX12_opens 29 = .ok (.iadd, 1) := by decide +kernel
theorem dX12_opens_30 : decode cX12_opens 30 = .ok (.putfield 119, 3) := by decide +kernel
theorem dX12_opens_33 : decode cX12_opens 33 = .ok (.return_, 1) := by decide +kernel
set_option maxRecDepth 20000 in
def kX12_opens_0 (g : sk_G) (d ck sk : Nat) (Q : sk_P) : sk_K := o_aload 0 (o_getf 12 5 (o_i (6) (o_icne (sk_B (g, d, ck, sk, xX12_opens, Q) 13) (o_aload 0 (o_invT (g, d, ck, sk, xX12_opens, Q) 1 0 12 (fun Q => kX12_bad_0 g (d - 1) 0 0 Q) (sk_B (g, d, ck, sk, xX12_opens, Q) 13))))))
set_option maxRecDepth 20000 in
theorem tX12_opens_0 {g : sk_G} {d ck sk : Nat} {Q : sk_P} : sk_S (g, d, ck, sk, xX12_opens, Q) 0 (kX12_opens_0 g d ck sk Q) := s_aload_n dX12_opens_0 rfl (s_getf (ci := 12) (j := 5) (C := RX12) (T := TX12) (N := 49) dX12_opens_1 rfl (by decide) (by decide) qf_X12_132 (s_bipush dX12_opens_4 rfl (s_icne (tgt := 13) dX12_opens_6 (by decide) (sk_id) (s_aload_n dX12_opens_9 rfl (s_invT (X := xX12_bad) (ci := 12) (T := TX12) (N := 49) (K := (fun Q => kX12_bad_0 g (d - 1) 0 0 Q)) (fun _ => tX12_bad_0) rfl dX12_opens_10 m_X12_bad rfl (by decide) qm_X12_135 qi_X12_bad qe_X12_bad (sk_id))))))
set_option maxRecDepth 20000 in
def kX12_opens_13 (g : sk_G) (d ck sk : Nat) (Q : sk_P) : sk_K := o_aload 0 (o_dup (o_getf 12 5 (o_i (1) (o_iadd (o_puti 12 5 (o_aload 0 (o_dup (o_getf 12 3 (o_i (1) (o_iadd (o_puti 12 3 (o_ret (g, d, ck, sk, xX12_opens, Q)))))))))))))
set_option maxRecDepth 20000 in
theorem tX12_opens_13 {g : sk_G} {d ck sk : Nat} {Q : sk_P} : sk_S (g, d, ck, sk, xX12_opens, Q) 13 (kX12_opens_13 g d ck sk Q) := s_aload_n dX12_opens_13 rfl (s_dup dX12_opens_14 (s_getf (ci := 12) (j := 5) (C := RX12) (T := TX12) (N := 49) dX12_opens_15 rfl (by decide) (by decide) qf_X12_132 (s_iconst dX12_opens_18 (s_iadd dX12_opens_19 (s_puti (ci := 12) (j := 5) (C := RX12) (T := TX12) (N := 49) dX12_opens_20 rfl (by decide) (by decide) rfl (tyX12_ok 5 (by decide)) qf_X12_132 (s_aload_n dX12_opens_23 rfl (s_dup dX12_opens_24 (s_getf (ci := 12) (j := 3) (C := RX12) (T := TX12) (N := 49) dX12_opens_25 rfl (by decide) (by decide) qf_X12_119 (s_iconst dX12_opens_28 (s_iadd dX12_opens_29 (s_puti (ci := 12) (j := 3) (C := RX12) (T := TX12) (N := 49) dX12_opens_30 rfl (by decide) (by decide) rfl (tyX12_ok 3 (by decide)) qf_X12_119 (s_ret dX12_opens_33 rfl))))))))))))
theorem dX12_put_0 : decode cX12_put 0 = .ok (.aload_n 0, 1) := by decide +kernel
theorem dX12_put_1 : decode cX12_put 1 = .ok (.getfield 13, 3) := by decide +kernel
theorem dX12_put_4 : decode cX12_put 4 = .ok (.sipush 520, 3) := by decide +kernel
theorem dX12_put_7 : decode cX12_put 7 = .ok (.aload_n 0, 1) := by decide +kernel
theorem dX12_put_8 : decode cX12_put 8 = .ok (.getfield 129, 3) := by decide +kernel
theorem dX12_put_11 : decode cX12_put 11 = .ok (.imul, 1) := by decide +kernel
theorem dX12_put_12 : decode cX12_put 12 = .ok (.aload_n 0, 1) := by decide +kernel
theorem dX12_put_13 : decode cX12_put 13 = .ok (.getfield 19, 3) := by decide +kernel
theorem dX12_put_16 : decode cX12_put 16 = .ok (.aload_n 0, 1) := by decide +kernel
theorem dX12_put_17 : decode cX12_put 17 = .ok (.getfield 129, 3) := by decide +kernel
theorem dX12_put_20 : decode cX12_put 20 = .ok (.iaload, 1) := by decide +kernel
theorem dX12_put_21 : decode cX12_put 21 = .ok (.iadd, 1) := by decide +kernel
theorem dX12_put_22 : decode cX12_put 22 = .ok (.iload_n 1, 1) := by decide +kernel
theorem dX12_put_23 : decode cX12_put 23 = .ok (.iastore, 1) := by decide +kernel
theorem dX12_put_24 : decode cX12_put 24 = .ok (.aload_n 0, 1) := by decide +kernel
theorem dX12_put_25 : decode cX12_put 25 = .ok (.getfield 16, 3) := by decide +kernel
theorem dX12_put_28 : decode cX12_put 28 = .ok (.sipush 520, 3) := by decide +kernel
theorem dX12_put_31 : decode cX12_put 31 = .ok (.aload_n 0, 1) := by decide +kernel
theorem dX12_put_32 : decode cX12_put 32 = .ok (.getfield 129, 3) := by decide +kernel
theorem dX12_put_35 : decode cX12_put 35 = .ok (.imul, 1) := by decide +kernel
theorem dX12_put_36 : decode cX12_put 36 = .ok (.aload_n 0, 1) := by decide +kernel
theorem dX12_put_37 : decode cX12_put 37 = .ok (.getfield 19, 3) := by decide +kernel
theorem dX12_put_40 : decode cX12_put 40 = .ok (.aload_n 0, 1) := by decide +kernel
theorem dX12_put_41 : decode cX12_put 41 = .ok (.getfield 129, 3) := by decide +kernel
theorem dX12_put_44 : decode cX12_put 44 = .ok (.iaload, 1) := by decide +kernel
theorem dX12_put_45 : decode cX12_put 45 = .ok (.iadd, 1) := by decide +kernel
theorem dX12_put_46 : decode cX12_put 46 = .ok (.iload_n 2, 1) := by decide +kernel
theorem dX12_put_47 : decode cX12_put 47 = .ok (.iastore, 1) := by decide +kernel
theorem dX12_put_48 : decode cX12_put 48 = .ok (.aload_n 0, 1) := by decide +kernel
theorem dX12_put_49 : decode cX12_put 49 = .ok (.getfield 19, 3) := by decide +kernel
theorem dX12_put_52 : decode cX12_put 52 = .ok (.aload_n 0, 1) := by decide +kernel
theorem dX12_put_53 : decode cX12_put 53 = .ok (.getfield 129, 3) := by decide +kernel
theorem dX12_put_56 : decode cX12_put 56 = .ok (.dup2, 1) := by decide +kernel
theorem dX12_put_57 : decode cX12_put 57 = .ok (.iaload, 1) := by decide +kernel
theorem dX12_put_58 : decode cX12_put 58 = .ok (.iconst 1, 1) := by decide +kernel
theorem dX12_put_59 : decode cX12_put 59 = .ok (.iadd, 1) := by decide +kernel
theorem dX12_put_60 : decode cX12_put 60 = .ok (.iastore, 1) := by decide +kernel
theorem dX12_put_61 : decode cX12_put 61 = .ok (.return_, 1) := by decide +kernel
set_option maxRecDepth 20000 in
def kX12_put_0 (g : sk_G) (d ck sk : Nat) (Q : sk_P) : sk_K := o_aload 0 (o_getf 12 6 (o_i (520) (o_aload 0 (o_getf 12 14 (o_imul (o_aload 0 (o_getf 12 8 (o_aload 0 (o_getf 12 14 (o_iaload (o_iadd (o_iload 1 (o_iastore (o_aload 0 (o_getf 12 7 (o_i (520) (o_aload 0 (o_getf 12 14 (o_imul (o_aload 0 (o_getf 12 8 (o_aload 0 (o_getf 12 14 (o_iaload (o_iadd (o_iload 2 (o_iastore (o_aload 0 (o_getf 12 8 (o_aload 0 (o_getf 12 14 (o_dup2 (o_iaload (o_i (1) (o_iadd (o_iastore (o_ret (g, d, ck, sk, xX12_put, Q))))))))))))))))))))))))))))))))))))))
set_option maxRecDepth 20000 in
theorem tX12_put_0 {g : sk_G} {d ck sk : Nat} {Q : sk_P} : sk_S (g, d, ck, sk, xX12_put, Q) 0 (kX12_put_0 g d ck sk Q) := s_aload_n dX12_put_0 rfl (s_getf (ci := 12) (j := 6) (C := RX12) (T := TX12) (N := 49) dX12_put_1 rfl (by decide) (by decide) qf_X12_13 (s_sipush dX12_put_4 rfl (s_aload_n dX12_put_7 rfl (s_getf (ci := 12) (j := 14) (C := RX12) (T := TX12) (N := 49) dX12_put_8 rfl (by decide) (by decide) qf_X12_129 (s_imul dX12_put_11 (s_aload_n dX12_put_12 rfl (s_getf (ci := 12) (j := 8) (C := RX12) (T := TX12) (N := 49) dX12_put_13 rfl (by decide) (by decide) qf_X12_19 (s_aload_n dX12_put_16 rfl (s_getf (ci := 12) (j := 14) (C := RX12) (T := TX12) (N := 49) dX12_put_17 rfl (by decide) (by decide) qf_X12_129 (s_iaload dX12_put_20 (s_iadd dX12_put_21 (s_iload_n dX12_put_22 rfl (s_iastore dX12_put_23 (s_aload_n dX12_put_24 rfl (s_getf (ci := 12) (j := 7) (C := RX12) (T := TX12) (N := 49) dX12_put_25 rfl (by decide) (by decide) qf_X12_16 (s_sipush dX12_put_28 rfl (s_aload_n dX12_put_31 rfl (s_getf (ci := 12) (j := 14) (C := RX12) (T := TX12) (N := 49) dX12_put_32 rfl (by decide) (by decide) qf_X12_129 (s_imul dX12_put_35 (s_aload_n dX12_put_36 rfl (s_getf (ci := 12) (j := 8) (C := RX12) (T := TX12) (N := 49) dX12_put_37 rfl (by decide) (by decide) qf_X12_19 (s_aload_n dX12_put_40 rfl (s_getf (ci := 12) (j := 14) (C := RX12) (T := TX12) (N := 49) dX12_put_41 rfl (by decide) (by decide) qf_X12_129 (s_iaload dX12_put_44 (s_iadd dX12_put_45 (s_iload_n dX12_put_46 rfl (s_iastore dX12_put_47 (s_aload_n dX12_put_48 rfl (s_getf (ci := 12) (j := 8) (C := RX12) (T := TX12) (N := 49) dX12_put_49 rfl (by decide) (by decide) qf_X12_19 (s_aload_n dX12_put_52 rfl (s_getf (ci := 12) (j := 14) (C := RX12) (T := TX12) (N := 49) dX12_put_53 rfl (by decide) (by decide) qf_X12_129 (s_dup2 dX12_put_56 (s_iaload dX12_put_57 (s_iconst dX12_put_58 (s_iadd dX12_put_59 (s_iastore dX12_put_60 (s_ret dX12_put_61 rfl)))))))))))))))))))))))))))))))))))))
theorem dX12_closes_0 : decode cX12_closes 0 = .ok (.aload_n 0, 1) := by decide +kernel
theorem dX12_closes_1 : decode cX12_closes 1 = .ok (.getfield 126, 3) := by decide +kernel
theorem dX12_closes_4 : decode cX12_closes 4 = .ok (.iconst (-1), 1) := by decide +kernel
theorem dX12_closes_5 : decode cX12_closes 5 = .ok (.if_icmp .ne 15, 3) := by decide +kernel
theorem dX12_closes_8 : decode cX12_closes 8 = .ok (.aload_n 0, 1) := by decide +kernel
theorem dX12_closes_9 : decode cX12_closes 9 = .ok (.invokevirtual 138, 3) := by decide +kernel
theorem dX12_closes_12 : decode cX12_closes 12 = .ok (.iload_n 1, 1) := by decide +kernel
theorem dX12_closes_13 : decode cX12_closes 13 = .ok (.if_icmp .eq 7, 3) := by decide +kernel
theorem dX12_closes_16 : decode cX12_closes 16 = .ok (.aload_n 0, 1) := by decide +kernel
theorem dX12_closes_17 : decode cX12_closes 17 = .ok (.invokevirtual 135, 3) := by decide +kernel
theorem dX12_closes_20 : decode cX12_closes 20 = .ok (.aload_n 0, 1) := by decide +kernel
theorem dX12_closes_21 : decode cX12_closes 21 = .ok (.dup, 1) := by decide +kernel
theorem dX12_closes_22 : decode cX12_closes 22 = .ok (.getfield 119, 3) := by decide +kernel
theorem dX12_closes_25 : decode cX12_closes 25 = .ok (.iconst 1, 1) := by decide +kernel
theorem dX12_closes_26 : decode cX12_closes 26 = .ok (.iadd, 1) := by decide +kernel
theorem dX12_closes_27 : decode cX12_closes 27 = .ok (.putfield 119, 3) := by decide +kernel
theorem dX12_closes_30 : decode cX12_closes 30 = .ok (.aload_n 0, 1) := by decide +kernel
theorem dX12_closes_31 : decode cX12_closes 31 = .ok (.dup, 1) := by decide +kernel
theorem dX12_closes_32 : decode cX12_closes 32 = .ok (.getfield 132, 3) := by decide +kernel
theorem dX12_closes_35 : decode cX12_closes 35 = .ok (.iconst 1, 1) := by decide +kernel
theorem dX12_closes_36 : decode cX12_closes 36 = .ok (.isub, 1) := by decide +kernel
theorem dX12_closes_37 : decode cX12_closes 37 = .ok (.putfield 132, 3) := by decide +kernel
theorem dX12_closes_40 : decode cX12_closes 40 = .ok (.return_, 1) := by decide +kernel
set_option maxRecDepth 20000 in
def kX12_closes_0 (g : sk_G) (d ck sk : Nat) (Q : sk_P) : sk_K := o_aload 0 (o_getf 12 4 (o_i (-1) (o_icne (sk_B (g, d, ck, sk, xX12_closes, Q) 20) (o_aload 0 (o_invB (g, d, ck, sk, xX12_closes, Q) xX12_look 0 12 0 0 (o_iload 1 (o_iceq (sk_B (g, d, ck, sk, xX12_closes, Q) 20) (o_aload 0 (o_invT (g, d, ck, sk, xX12_closes, Q) 1 0 12 (fun Q => kX12_bad_0 g (d - 1) 0 0 Q) (sk_B (g, d, ck, sk, xX12_closes, Q) 20))))))))))
set_option maxRecDepth 20000 in
theorem tX12_closes_0 {g : sk_G} {d ck sk : Nat} {Q : sk_P} : sk_S (g, d, ck, sk, xX12_closes, Q) 0 (kX12_closes_0 g d ck sk Q) := s_aload_n dX12_closes_0 rfl (s_getf (ci := 12) (j := 4) (C := RX12) (T := TX12) (N := 49) dX12_closes_1 rfl (by decide) (by decide) qf_X12_126 (s_iconst dX12_closes_4 (s_icne (tgt := 20) dX12_closes_5 (by decide) (sk_id) (s_aload_n dX12_closes_8 rfl (s_invB (w' := (g, d, ck, sk, xX12_closes, Q)) (ci := 12) (ck := 0) (sk := 0) (T := TX12) (N := 49) dX12_closes_9 m_X12_look rfl (by decide) qm_X12_138 qi_X12_look qe_X12_look rfl (s_iload_n dX12_closes_12 rfl (s_iceq (tgt := 20) dX12_closes_13 (by decide) (sk_id) (s_aload_n dX12_closes_16 rfl (s_invT (X := xX12_bad) (ci := 12) (T := TX12) (N := 49) (K := (fun Q => kX12_bad_0 g (d - 1) 0 0 Q)) (fun _ => tX12_bad_0) rfl dX12_closes_17 m_X12_bad rfl (by decide) qm_X12_135 qi_X12_bad qe_X12_bad (sk_id))))))))))
set_option maxRecDepth 20000 in
def kX12_closes_20 (g : sk_G) (d ck sk : Nat) (Q : sk_P) : sk_K := o_aload 0 (o_dup (o_getf 12 3 (o_i (1) (o_iadd (o_puti 12 3 (o_aload 0 (o_dup (o_getf 12 5 (o_i (1) (o_isub (o_puti 12 5 (o_ret (g, d, ck, sk, xX12_closes, Q)))))))))))))
set_option maxRecDepth 20000 in
theorem tX12_closes_20 {g : sk_G} {d ck sk : Nat} {Q : sk_P} : sk_S (g, d, ck, sk, xX12_closes, Q) 20 (kX12_closes_20 g d ck sk Q) := s_aload_n dX12_closes_20 rfl (s_dup dX12_closes_21 (s_getf (ci := 12) (j := 3) (C := RX12) (T := TX12) (N := 49) dX12_closes_22 rfl (by decide) (by decide) qf_X12_119 (s_iconst dX12_closes_25 (s_iadd dX12_closes_26 (s_puti (ci := 12) (j := 3) (C := RX12) (T := TX12) (N := 49) dX12_closes_27 rfl (by decide) (by decide) rfl (tyX12_ok 3 (by decide)) qf_X12_119 (s_aload_n dX12_closes_30 rfl (s_dup dX12_closes_31 (s_getf (ci := 12) (j := 5) (C := RX12) (T := TX12) (N := 49) dX12_closes_32 rfl (by decide) (by decide) qf_X12_132 (s_iconst dX12_closes_35 (s_isub dX12_closes_36 (s_puti (ci := 12) (j := 5) (C := RX12) (T := TX12) (N := 49) dX12_closes_37 rfl (by decide) (by decide) rfl (tyX12_ok 5 (by decide)) qf_X12_132 (s_ret dX12_closes_40 rfl))))))))))))
theorem dX12_sum_0 : decode cX12_sum 0 = .ok (.aload_n 0, 1) := by decide +kernel
theorem dX12_sum_1 : decode cX12_sum 1 = .ok (.invokevirtual 169, 3) := by decide +kernel
theorem dX12_sum_4 : decode cX12_sum 4 = .ok (.aload_n 0, 1) := by decide +kernel
theorem dX12_sum_5 : decode cX12_sum 5 = .ok (.getfield 126, 3) := by decide +kernel
theorem dX12_sum_8 : decode cX12_sum 8 = .ok (.iconst (-1), 1) := by decide +kernel
theorem dX12_sum_9 : decode cX12_sum 9 = .ok (.if_icmp .ne 10, 3) := by decide +kernel
theorem dX12_sum_12 : decode cX12_sum 12 = .ok (.aload_n 0, 1) := by decide +kernel
theorem dX12_sum_13 : decode cX12_sum 13 = .ok (.invokevirtual 138, 3) := by decide +kernel
theorem dX12_sum_16 : decode cX12_sum 16 = .ok (.goto 4, 3) := by decide +kernel
theorem dX12_sum_19 : decode cX12_sum 19 = .ok (.iconst (-1), 1) := by decide +kernel
theorem dX12_sum_20 : decode cX12_sum 20 = .ok (.istore_n 1, 1) := by decide +kernel
theorem dX12_sum_21 : decode cX12_sum 21 = .ok (.iload_n 1, 1) := by decide +kernel
theorem dX12_sum_22 : decode cX12_sum 22 = .ok (.bipush 43, 2) := by decide +kernel
theorem dX12_sum_24 : decode cX12_sum 24 = .ok (.if_icmp .eq 9, 3) := by decide +kernel
theorem dX12_sum_27 : decode cX12_sum 27 = .ok (.iload_n 1, 1) := by decide +kernel
theorem dX12_sum_28 : decode cX12_sum 28 = .ok (.bipush 45, 2) := by decide +kernel
theorem dX12_sum_30 : decode cX12_sum 30 = .ok (.if_icmp .ne 53, 3) := by decide +kernel
theorem dX12_sum_33 : decode cX12_sum 33 = .ok (.aload_n 0, 1) := by decide +kernel
theorem dX12_sum_34 : decode cX12_sum 34 = .ok (.dup, 1) := by decide +kernel
theorem dX12_sum_35 : decode cX12_sum 35 = .ok (.getfield 119, 3) := by decide +kernel
theorem dX12_sum_38 : decode cX12_sum 38 = .ok (.iconst 1, 1) := by decide +kernel
theorem dX12_sum_39 : decode cX12_sum 39 = .ok (.iadd, 1) := by decide +kernel
theorem dX12_sum_40 : decode cX12_sum 40 = .ok (.putfield 119, 3) := by decide +kernel
theorem dX12_sum_43 : decode cX12_sum 43 = .ok (.aload_n 0, 1) := by decide +kernel
theorem dX12_sum_44 : decode cX12_sum 44 = .ok (.invokevirtual 169, 3) := by decide +kernel
theorem dX12_sum_47 : decode cX12_sum 47 = .ok (.aload_n 0, 1) := by decide +kernel
theorem dX12_sum_48 : decode cX12_sum 48 = .ok (.iload_n 1, 1) := by decide +kernel
theorem dX12_sum_49 : decode cX12_sum 49 = .ok (.bipush 43, 2) := by decide +kernel
theorem dX12_sum_51 : decode cX12_sum 51 = .ok (.if_icmp .ne 7, 3) := by decide +kernel
theorem dX12_sum_54 : decode cX12_sum 54 = .ok (.iconst 2, 1) := by decide +kernel
theorem dX12_sum_55 : decode cX12_sum 55 = .ok (.goto 4, 3) := by decide +kernel
theorem dX12_sum_58 : decode cX12_sum 58 = .ok (.iconst 3, 1) := by decide +kernel
theorem dX12_sum_59 : decode cX12_sum 59 = .ok (.iconst 0, 1) := by decide +kernel
theorem dX12_sum_60 : decode cX12_sum 60 = .ok (.invokevirtual 148, 3) := by decide +kernel
theorem dX12_sum_63 : decode cX12_sum 63 = .ok (.aload_n 0, 1) := by decide +kernel
theorem dX12_sum_64 : decode cX12_sum 64 = .ok (.getfield 126, 3) := by decide +kernel
theorem dX12_sum_67 : decode cX12_sum 67 = .ok (.iconst (-1), 1) := by decide +kernel
theorem dX12_sum_68 : decode cX12_sum 68 = .ok (.if_icmp .ne 10, 3) := by decide +kernel
theorem dX12_sum_71 : decode cX12_sum 71 = .ok (.aload_n 0, 1) := by decide +kernel
theorem dX12_sum_72 : decode cX12_sum 72 = .ok (.invokevirtual 138, 3) := by decide +kernel
theorem dX12_sum_75 : decode cX12_sum 75 = .ok (.goto 4, 3) := by decide +kernel
theorem dX12_sum_78 : decode cX12_sum 78 = .ok (.iconst (-1), 1) := by decide +kernel
theorem dX12_sum_79 : decode cX12_sum 79 = .ok (.istore_n 1, 1) := by decide +kernel
theorem dX12_sum_80 : decode cX12_sum 80 = .ok (.goto (-59), 3) := by decide +kernel
theorem dX12_sum_83 : decode cX12_sum 83 = .ok (.return_, 1) := by decide +kernel
set_option maxRecDepth 20000 in
def kX12_sum_0 (g : sk_G) (d ck sk : Nat) (Q : sk_P) : sk_K := o_aload 0 (o_invB (g, d, ck, sk, xX12_sum, Q) xX12_term 0 12 0 0 (o_aload 0 (o_getf 12 4 (o_i (-1) (o_icne (o_i (-1) (o_istore 1 (sk_B (g, d, ck, sk, xX12_sum, Q) 21))) (o_aload 0 (o_invB (g, d, ck, sk, xX12_sum, Q) xX12_look 0 12 0 0 (o_istore 1 (sk_B (g, d, ck, sk, xX12_sum, Q) 21)))))))))
set_option maxRecDepth 20000 in
theorem tX12_sum_0 {g : sk_G} {d ck sk : Nat} {Q : sk_P} : sk_S (g, d, ck, sk, xX12_sum, Q) 0 (kX12_sum_0 g d ck sk Q) := s_aload_n dX12_sum_0 rfl (s_invB (w' := (g, d, ck, sk, xX12_sum, Q)) (ci := 12) (ck := 0) (sk := 0) (T := TX12) (N := 49) dX12_sum_1 m_X12_term rfl (by decide) qm_X12_169 qi_X12_term qe_X12_term rfl (s_aload_n dX12_sum_4 rfl (s_getf (ci := 12) (j := 4) (C := RX12) (T := TX12) (N := 49) dX12_sum_5 rfl (by decide) (by decide) qf_X12_126 (s_iconst dX12_sum_8 (s_icne (tgt := 19) dX12_sum_9 (by decide) (s_iconst dX12_sum_19 (s_istore_n dX12_sum_20 rfl (by decide : 1 < 2) (sk_id))) (s_aload_n dX12_sum_12 rfl (s_invB (w' := (g, d, ck, sk, xX12_sum, Q)) (ci := 12) (ck := 0) (sk := 0) (T := TX12) (N := 49) dX12_sum_13 m_X12_look rfl (by decide) qm_X12_138 qi_X12_look qe_X12_look rfl (s_goto (tgt := 20) dX12_sum_16 (by decide) (s_istore_n dX12_sum_20 rfl (by decide : 1 < 2) (sk_id))))))))))
def kX12_sum_21 (g : sk_G) (d ck sk : Nat) (Q : sk_P) : sk_K := o_iload 1 (o_i (43) (o_iceq (sk_B (g, d, ck, sk, xX12_sum, Q) 33) (o_iload 1 (o_i (45) (o_icne (o_ret (g, d, ck, sk, xX12_sum, Q)) (sk_B (g, d, ck, sk, xX12_sum, Q) 33))))))
theorem tX12_sum_21 {g : sk_G} {d ck sk : Nat} {Q : sk_P} : sk_S (g, d, ck, sk, xX12_sum, Q) 21 (kX12_sum_21 g d ck sk Q) := s_iload_n dX12_sum_21 rfl (s_bipush dX12_sum_22 rfl (s_iceq (tgt := 33) dX12_sum_24 (by decide) (sk_id) (s_iload_n dX12_sum_27 rfl (s_bipush dX12_sum_28 rfl (s_icne (tgt := 83) dX12_sum_30 (by decide) (s_ret dX12_sum_83 rfl) (sk_id))))))
set_option maxRecDepth 20000 in
def kX12_sum_33 (g : sk_G) (d ck sk : Nat) (Q : sk_P) : sk_K := o_aload 0 (o_dup (o_getf 12 3 (o_i (1) (o_iadd (o_puti 12 3 (o_aload 0 (o_invB (g, d, ck, sk, xX12_sum, Q) xX12_term 0 12 0 0 (o_aload 0 (o_iload 1 (o_i (43) (o_icne (o_i (3) (sk_B (g, d, ck, sk, xX12_sum, Q) 59)) (o_i (2) (sk_B (g, d, ck, sk, xX12_sum, Q) 59)))))))))))))
set_option maxRecDepth 20000 in
theorem tX12_sum_33 {g : sk_G} {d ck sk : Nat} {Q : sk_P} : sk_S (g, d, ck, sk, xX12_sum, Q) 33 (kX12_sum_33 g d ck sk Q) := s_aload_n dX12_sum_33 rfl (s_dup dX12_sum_34 (s_getf (ci := 12) (j := 3) (C := RX12) (T := TX12) (N := 49) dX12_sum_35 rfl (by decide) (by decide) qf_X12_119 (s_iconst dX12_sum_38 (s_iadd dX12_sum_39 (s_puti (ci := 12) (j := 3) (C := RX12) (T := TX12) (N := 49) dX12_sum_40 rfl (by decide) (by decide) rfl (tyX12_ok 3 (by decide)) qf_X12_119 (s_aload_n dX12_sum_43 rfl (s_invB (w' := (g, d, ck, sk, xX12_sum, Q)) (ci := 12) (ck := 0) (sk := 0) (T := TX12) (N := 49) dX12_sum_44 m_X12_term rfl (by decide) qm_X12_169 qi_X12_term qe_X12_term rfl (s_aload_n dX12_sum_47 rfl (s_iload_n dX12_sum_48 rfl (s_bipush dX12_sum_49 rfl (s_icne (tgt := 58) dX12_sum_51 (by decide) (s_iconst dX12_sum_58 (sk_id)) (s_iconst dX12_sum_54 (s_goto (tgt := 59) dX12_sum_55 (by decide) (sk_id))))))))))))))
set_option maxRecDepth 20000 in
def kX12_sum_59 (g : sk_G) (d ck sk : Nat) (Q : sk_P) : sk_K := o_i (0) (o_invB (g, d, ck, sk, xX12_sum, Q) xX12_put 2 12 0 0 (o_aload 0 (o_getf 12 4 (o_i (-1) (o_icne (o_i (-1) (o_istore 1 (sk_B (g, d, ck, sk, xX12_sum, Q) 21))) (o_aload 0 (o_invB (g, d, ck, sk, xX12_sum, Q) xX12_look 0 12 0 0 (o_istore 1 (sk_B (g, d, ck, sk, xX12_sum, Q) 21)))))))))
set_option maxRecDepth 20000 in
theorem tX12_sum_59 {g : sk_G} {d ck sk : Nat} {Q : sk_P} : sk_S (g, d, ck, sk, xX12_sum, Q) 59 (kX12_sum_59 g d ck sk Q) := s_iconst dX12_sum_59 (s_invB (w' := (g, d, ck, sk, xX12_sum, Q)) (ci := 12) (ck := 0) (sk := 0) (T := TX12) (N := 49) dX12_sum_60 m_X12_put rfl (by decide) qm_X12_148 qi_X12_put qe_X12_put rfl (s_aload_n dX12_sum_63 rfl (s_getf (ci := 12) (j := 4) (C := RX12) (T := TX12) (N := 49) dX12_sum_64 rfl (by decide) (by decide) qf_X12_126 (s_iconst dX12_sum_67 (s_icne (tgt := 78) dX12_sum_68 (by decide) (s_iconst dX12_sum_78 (s_istore_n dX12_sum_79 rfl (by decide : 1 < 2) (s_goto (tgt := 21) dX12_sum_80 (by decide) (sk_id)))) (s_aload_n dX12_sum_71 rfl (s_invB (w' := (g, d, ck, sk, xX12_sum, Q)) (ci := 12) (ck := 0) (sk := 0) (T := TX12) (N := 49) dX12_sum_72 m_X12_look rfl (by decide) qm_X12_138 qi_X12_look qe_X12_look rfl (s_goto (tgt := 79) dX12_sum_75 (by decide) (s_istore_n dX12_sum_79 rfl (by decide : 1 < 2) (s_goto (tgt := 21) dX12_sum_80 (by decide) (sk_id)))))))))))
theorem dX12_term_0 : decode cX12_term 0 = .ok (.aload_n 0, 1) := by decide +kernel
theorem dX12_term_1 : decode cX12_term 1 = .ok (.invokevirtual 166, 3) := by decide +kernel
theorem dX12_term_4 : decode cX12_term 4 = .ok (.aload_n 0, 1) := by decide +kernel
theorem dX12_term_5 : decode cX12_term 5 = .ok (.getfield 126, 3) := by decide +kernel
theorem dX12_term_8 : decode cX12_term 8 = .ok (.iconst (-1), 1) := by decide +kernel
theorem dX12_term_9 : decode cX12_term 9 = .ok (.if_icmp .ne 10, 3) := by decide +kernel
theorem dX12_term_12 : decode cX12_term 12 = .ok (.aload_n 0, 1) := by decide +kernel
theorem dX12_term_13 : decode cX12_term 13 = .ok (.invokevirtual 138, 3) := by decide +kernel
theorem dX12_term_16 : decode cX12_term 16 = .ok (.goto 4, 3) := by decide +kernel
theorem dX12_term_19 : decode cX12_term 19 = .ok (.iconst (-1), 1) := by decide +kernel
theorem dX12_term_20 : decode cX12_term 20 = .ok (.istore_n 1, 1) := by decide +kernel
theorem dX12_term_21 : decode cX12_term 21 = .ok (.iload_n 1, 1) := by decide +kernel
theorem dX12_term_22 : decode cX12_term 22 = .ok (.bipush 42, 2) := by decide +kernel
theorem dX12_term_24 : decode cX12_term 24 = .ok (.if_icmp .eq 9, 3) := by decide +kernel
theorem dX12_term_27 : decode cX12_term 27 = .ok (.iload_n 1, 1) := by decide +kernel
theorem dX12_term_28 : decode cX12_term 28 = .ok (.bipush 47, 2) := by decide +kernel
theorem dX12_term_30 : decode cX12_term 30 = .ok (.if_icmp .ne 53, 3) := by decide +kernel
theorem dX12_term_33 : decode cX12_term 33 = .ok (.aload_n 0, 1) := by decide +kernel
theorem dX12_term_34 : decode cX12_term 34 = .ok (.dup, 1) := by decide +kernel
theorem dX12_term_35 : decode cX12_term 35 = .ok (.getfield 119, 3) := by decide +kernel
theorem dX12_term_38 : decode cX12_term 38 = .ok (.iconst 1, 1) := by decide +kernel
theorem dX12_term_39 : decode cX12_term 39 = .ok (.iadd, 1) := by decide +kernel
theorem dX12_term_40 : decode cX12_term 40 = .ok (.putfield 119, 3) := by decide +kernel
theorem dX12_term_43 : decode cX12_term 43 = .ok (.aload_n 0, 1) := by decide +kernel
theorem dX12_term_44 : decode cX12_term 44 = .ok (.invokevirtual 166, 3) := by decide +kernel
theorem dX12_term_47 : decode cX12_term 47 = .ok (.aload_n 0, 1) := by decide +kernel
theorem dX12_term_48 : decode cX12_term 48 = .ok (.iload_n 1, 1) := by decide +kernel
theorem dX12_term_49 : decode cX12_term 49 = .ok (.bipush 42, 2) := by decide +kernel
theorem dX12_term_51 : decode cX12_term 51 = .ok (.if_icmp .ne 7, 3) := by decide +kernel
theorem dX12_term_54 : decode cX12_term 54 = .ok (.iconst 4, 1) := by decide +kernel
theorem dX12_term_55 : decode cX12_term 55 = .ok (.goto 4, 3) := by decide +kernel
theorem dX12_term_58 : decode cX12_term 58 = .ok (.iconst 5, 1) := by decide +kernel
theorem dX12_term_59 : decode cX12_term 59 = .ok (.iconst 0, 1) := by decide +kernel
theorem dX12_term_60 : decode cX12_term 60 = .ok (.invokevirtual 148, 3) := by decide +kernel
theorem dX12_term_63 : decode cX12_term 63 = .ok (.aload_n 0, 1) := by decide +kernel
theorem dX12_term_64 : decode cX12_term 64 = .ok (.getfield 126, 3) := by decide +kernel
theorem dX12_term_67 : decode cX12_term 67 = .ok (.iconst (-1), 1) := by decide +kernel
theorem dX12_term_68 : decode cX12_term 68 = .ok (.if_icmp .ne 10, 3) := by decide +kernel
theorem dX12_term_71 : decode cX12_term 71 = .ok (.aload_n 0, 1) := by decide +kernel
theorem dX12_term_72 : decode cX12_term 72 = .ok (.invokevirtual 138, 3) := by decide +kernel
theorem dX12_term_75 : decode cX12_term 75 = .ok (.goto 4, 3) := by decide +kernel
theorem dX12_term_78 : decode cX12_term 78 = .ok (.iconst (-1), 1) := by decide +kernel
theorem dX12_term_79 : decode cX12_term 79 = .ok (.istore_n 1, 1) := by decide +kernel
theorem dX12_term_80 : decode cX12_term 80 = .ok (.goto (-59), 3) := by decide +kernel
theorem dX12_term_83 : decode cX12_term 83 = .ok (.return_, 1) := by decide +kernel
set_option maxRecDepth 20000 in
def kX12_term_0 (g : sk_G) (d ck sk : Nat) (Q : sk_P) : sk_K := o_aload 0 (o_invB (g, d, ck, sk, xX12_term, Q) xX12_atom 0 12 0 0 (o_aload 0 (o_getf 12 4 (o_i (-1) (o_icne (o_i (-1) (o_istore 1 (sk_B (g, d, ck, sk, xX12_term, Q) 21))) (o_aload 0 (o_invB (g, d, ck, sk, xX12_term, Q) xX12_look 0 12 0 0 (o_istore 1 (sk_B (g, d, ck, sk, xX12_term, Q) 21)))))))))
set_option maxRecDepth 20000 in
theorem tX12_term_0 {g : sk_G} {d ck sk : Nat} {Q : sk_P} : sk_S (g, d, ck, sk, xX12_term, Q) 0 (kX12_term_0 g d ck sk Q) := s_aload_n dX12_term_0 rfl (s_invB (w' := (g, d, ck, sk, xX12_term, Q)) (ci := 12) (ck := 0) (sk := 0) (T := TX12) (N := 49) dX12_term_1 m_X12_atom rfl (by decide) qm_X12_166 qi_X12_atom qe_X12_atom rfl (s_aload_n dX12_term_4 rfl (s_getf (ci := 12) (j := 4) (C := RX12) (T := TX12) (N := 49) dX12_term_5 rfl (by decide) (by decide) qf_X12_126 (s_iconst dX12_term_8 (s_icne (tgt := 19) dX12_term_9 (by decide) (s_iconst dX12_term_19 (s_istore_n dX12_term_20 rfl (by decide : 1 < 2) (sk_id))) (s_aload_n dX12_term_12 rfl (s_invB (w' := (g, d, ck, sk, xX12_term, Q)) (ci := 12) (ck := 0) (sk := 0) (T := TX12) (N := 49) dX12_term_13 m_X12_look rfl (by decide) qm_X12_138 qi_X12_look qe_X12_look rfl (s_goto (tgt := 20) dX12_term_16 (by decide) (s_istore_n dX12_term_20 rfl (by decide : 1 < 2) (sk_id))))))))))
def kX12_term_21 (g : sk_G) (d ck sk : Nat) (Q : sk_P) : sk_K := o_iload 1 (o_i (42) (o_iceq (sk_B (g, d, ck, sk, xX12_term, Q) 33) (o_iload 1 (o_i (47) (o_icne (o_ret (g, d, ck, sk, xX12_term, Q)) (sk_B (g, d, ck, sk, xX12_term, Q) 33))))))
theorem tX12_term_21 {g : sk_G} {d ck sk : Nat} {Q : sk_P} : sk_S (g, d, ck, sk, xX12_term, Q) 21 (kX12_term_21 g d ck sk Q) := s_iload_n dX12_term_21 rfl (s_bipush dX12_term_22 rfl (s_iceq (tgt := 33) dX12_term_24 (by decide) (sk_id) (s_iload_n dX12_term_27 rfl (s_bipush dX12_term_28 rfl (s_icne (tgt := 83) dX12_term_30 (by decide) (s_ret dX12_term_83 rfl) (sk_id))))))
set_option maxRecDepth 20000 in
def kX12_term_33 (g : sk_G) (d ck sk : Nat) (Q : sk_P) : sk_K := o_aload 0 (o_dup (o_getf 12 3 (o_i (1) (o_iadd (o_puti 12 3 (o_aload 0 (o_invB (g, d, ck, sk, xX12_term, Q) xX12_atom 0 12 0 0 (o_aload 0 (o_iload 1 (o_i (42) (o_icne (o_i (5) (sk_B (g, d, ck, sk, xX12_term, Q) 59)) (o_i (4) (sk_B (g, d, ck, sk, xX12_term, Q) 59)))))))))))))
set_option maxRecDepth 20000 in
theorem tX12_term_33 {g : sk_G} {d ck sk : Nat} {Q : sk_P} : sk_S (g, d, ck, sk, xX12_term, Q) 33 (kX12_term_33 g d ck sk Q) := s_aload_n dX12_term_33 rfl (s_dup dX12_term_34 (s_getf (ci := 12) (j := 3) (C := RX12) (T := TX12) (N := 49) dX12_term_35 rfl (by decide) (by decide) qf_X12_119 (s_iconst dX12_term_38 (s_iadd dX12_term_39 (s_puti (ci := 12) (j := 3) (C := RX12) (T := TX12) (N := 49) dX12_term_40 rfl (by decide) (by decide) rfl (tyX12_ok 3 (by decide)) qf_X12_119 (s_aload_n dX12_term_43 rfl (s_invB (w' := (g, d, ck, sk, xX12_term, Q)) (ci := 12) (ck := 0) (sk := 0) (T := TX12) (N := 49) dX12_term_44 m_X12_atom rfl (by decide) qm_X12_166 qi_X12_atom qe_X12_atom rfl (s_aload_n dX12_term_47 rfl (s_iload_n dX12_term_48 rfl (s_bipush dX12_term_49 rfl (s_icne (tgt := 58) dX12_term_51 (by decide) (s_iconst dX12_term_58 (sk_id)) (s_iconst dX12_term_54 (s_goto (tgt := 59) dX12_term_55 (by decide) (sk_id))))))))))))))
set_option maxRecDepth 20000 in
def kX12_term_59 (g : sk_G) (d ck sk : Nat) (Q : sk_P) : sk_K := o_i (0) (o_invB (g, d, ck, sk, xX12_term, Q) xX12_put 2 12 0 0 (o_aload 0 (o_getf 12 4 (o_i (-1) (o_icne (o_i (-1) (o_istore 1 (sk_B (g, d, ck, sk, xX12_term, Q) 21))) (o_aload 0 (o_invB (g, d, ck, sk, xX12_term, Q) xX12_look 0 12 0 0 (o_istore 1 (sk_B (g, d, ck, sk, xX12_term, Q) 21)))))))))
set_option maxRecDepth 20000 in
theorem tX12_term_59 {g : sk_G} {d ck sk : Nat} {Q : sk_P} : sk_S (g, d, ck, sk, xX12_term, Q) 59 (kX12_term_59 g d ck sk Q) := s_iconst dX12_term_59 (s_invB (w' := (g, d, ck, sk, xX12_term, Q)) (ci := 12) (ck := 0) (sk := 0) (T := TX12) (N := 49) dX12_term_60 m_X12_put rfl (by decide) qm_X12_148 qi_X12_put qe_X12_put rfl (s_aload_n dX12_term_63 rfl (s_getf (ci := 12) (j := 4) (C := RX12) (T := TX12) (N := 49) dX12_term_64 rfl (by decide) (by decide) qf_X12_126 (s_iconst dX12_term_67 (s_icne (tgt := 78) dX12_term_68 (by decide) (s_iconst dX12_term_78 (s_istore_n dX12_term_79 rfl (by decide : 1 < 2) (s_goto (tgt := 21) dX12_term_80 (by decide) (sk_id)))) (s_aload_n dX12_term_71 rfl (s_invB (w' := (g, d, ck, sk, xX12_term, Q)) (ci := 12) (ck := 0) (sk := 0) (T := TX12) (N := 49) dX12_term_72 m_X12_look rfl (by decide) qm_X12_138 qi_X12_look qe_X12_look rfl (s_goto (tgt := 79) dX12_term_75 (by decide) (s_istore_n dX12_term_79 rfl (by decide : 1 < 2) (s_goto (tgt := 21) dX12_term_80 (by decide) (sk_id)))))))))))
theorem dX12_atom_0 : decode cX12_atom 0 = .ok (.aload_n 0, 1) := by decide +kernel
theorem dX12_atom_1 : decode cX12_atom 1 = .ok (.invokevirtual 138, 3) := by decide +kernel
theorem dX12_atom_4 : decode cX12_atom 4 = .ok (.istore_n 1, 1) := by decide +kernel
theorem dX12_atom_5 : decode cX12_atom 5 = .ok (.iload_n 1, 1) := by decide +kernel
theorem dX12_atom_6 : decode cX12_atom 6 = .ok (.invokestatic 141, 3) := by decide +kernel
theorem dX12_atom_9 : decode cX12_atom 9 = .ok (.ifCond .eq 15, 3) := by decide +kernel
theorem dX12_atom_12 : decode cX12_atom 12 = .ok (.aload_n 0, 1) := by decide +kernel
theorem dX12_atom_13 : decode cX12_atom 13 = .ok (.iconst 0, 1) := by decide +kernel
theorem dX12_atom_14 : decode cX12_atom 14 = .ok (.aload_n 0, 1) := by decide +kernel
theorem dX12_atom_15 : decode cX12_atom 15 = .ok (.invokevirtual 145, 3) := by decide +kernel
theorem dX12_atom_18 : decode cX12_atom 18 = .ok (.invokevirtual 148, 3) := by decide +kernel
theorem dX12_atom_21 : decode cX12_atom 21 = .ok (.goto 68, 3) := by decide +kernel
theorem dX12_atom_24 : decode cX12_atom 24 = .ok (.iload_n 1, 1) := by decide +kernel
theorem dX12_atom_25 : decode cX12_atom 25 = .ok (.invokestatic 152, 3) := by decide +kernel
theorem dX12_atom_28 : decode cX12_atom 28 = .ok (.iconst (-1), 1) := by decide +kernel
theorem dX12_atom_29 : decode cX12_atom 29 = .ok (.if_icmp .eq 25, 3) := by decide +kernel
theorem dX12_atom_32 : decode cX12_atom 32 = .ok (.aload_n 0, 1) := by decide +kernel
theorem dX12_atom_33 : decode cX12_atom 33 = .ok (.dup, 1) := by decide +kernel
theorem dX12_atom_34 : decode cX12_atom 34 = .ok (.getfield 119, 3) := by decide +kernel
theorem dX12_atom_37 : decode cX12_atom 37 = .ok (.iconst 1, 1) := by decide +kernel
theorem dX12_atom_38 : decode cX12_atom 38 = .ok (.iadd, 1) := by decide +kernel
theorem dX12_atom_39 : decode cX12_atom 39 = .ok (.putfield 119, 3) := by decide +kernel
theorem dX12_atom_42 : decode cX12_atom 42 = .ok (.aload_n 0, 1) := by decide +kernel
theorem dX12_atom_43 : decode cX12_atom 43 = .ok (.iconst 1, 1) := by decide +kernel
theorem dX12_atom_44 : decode cX12_atom 44 = .ok (.iload_n 1, 1) := by decide +kernel
theorem dX12_atom_45 : decode cX12_atom 45 = .ok (.invokestatic 152, 3) := by decide +kernel
theorem dX12_atom_48 : decode cX12_atom 48 = .ok (.invokevirtual 148, 3) := by decide +kernel
theorem dX12_atom_51 : decode cX12_atom 51 = .ok (.goto 38, 3) := by decide +kernel
theorem dX12_atom_54 : decode cX12_atom 54 = .ok (.iload_n 1, 1) := by decide +kernel
theorem dX12_atom_55 : decode cX12_atom 55 = .ok (.bipush 91, 2) := by decide +kernel
theorem dX12_atom_57 : decode cX12_atom 57 = .ok (.if_icmp .ne 28, 3) := by decide +kernel
theorem dX12_atom_60 : decode cX12_atom 60 = .ok (.aload_n 0, 1) := by decide +kernel
theorem dX12_atom_61 : decode cX12_atom 61 = .ok (.invokevirtual 156, 3) := by decide +kernel
theorem dX12_atom_64 : decode cX12_atom 64 = .ok (.aload_n 0, 1) := by decide +kernel
theorem dX12_atom_65 : decode cX12_atom 65 = .ok (.getfield 126, 3) := by decide +kernel
theorem dX12_atom_68 : decode cX12_atom 68 = .ok (.iconst (-1), 1) := by decide +kernel
theorem dX12_atom_69 : decode cX12_atom 69 = .ok (.if_icmp .ne 20, 3) := by decide +kernel
theorem dX12_atom_72 : decode cX12_atom 72 = .ok (.aload_n 0, 1) := by decide +kernel
theorem dX12_atom_73 : decode cX12_atom 73 = .ok (.invokevirtual 159, 3) := by decide +kernel
theorem dX12_atom_76 : decode cX12_atom 76 = .ok (.aload_n 0, 1) := by decide +kernel
theorem dX12_atom_77 : decode cX12_atom 77 = .ok (.bipush 93, 2) := by decide +kernel
theorem dX12_atom_79 : decode cX12_atom 79 = .ok (.invokevirtual 162, 3) := by decide +kernel
theorem dX12_atom_82 : decode cX12_atom 82 = .ok (.goto 7, 3) := by decide +kernel
theorem dX12_atom_85 : decode cX12_atom 85 = .ok (.aload_n 0, 1) := by decide +kernel
theorem dX12_atom_86 : decode cX12_atom 86 = .ok (.invokevirtual 135, 3) := by decide +kernel
theorem dX12_atom_89 : decode cX12_atom 89 = .ok (.return_, 1) := by decide +kernel
set_option maxRecDepth 20000 in
def kX12_atom_0 (g : sk_G) (d ck sk : Nat) (Q : sk_P) : sk_K := o_aload 0 (o_invB (g, d, ck, sk, xX12_atom, Q) xX12_look 0 12 0 0 (o_istore 1 (o_iload 1 (o_stcT (g, d, ck, sk, xX12_atom, Q) 1 1 (fun Q => kX12_isDigit_0 g (d - 1) 0 0 Q) (o_ifeq (o_iload 1 (o_stcB (g, d, ck, sk, xX12_atom, Q) xX12_letterOf 1 0 0 (o_i (-1) (o_iceq (o_iload 1 (o_i (91) (o_icne (o_aload 0 (o_invT (g, d, ck, sk, xX12_atom, Q) 1 0 12 (fun Q => kX12_bad_0 g (d - 1) 0 0 Q) (o_ret (g, d, ck, sk, xX12_atom, Q)))) (o_aload 0 (o_invB (g, d, ck, sk, xX12_atom, Q) xX12_opens 0 12 0 0 (o_aload 0 (o_getf 12 4 (o_i (-1) (o_icne (o_ret (g, d, ck, sk, xX12_atom, Q)) (o_aload 0 (o_invB (g, d, ck, sk, xX12_atom, Q) xX12_sum 0 12 0 0 (o_aload 0 (o_i (93) (o_invB (g, d, ck, sk, xX12_atom, Q) xX12_closes 1 12 0 0 (o_ret (g, d, ck, sk, xX12_atom, Q)))))))))))))))) (o_aload 0 (o_dup (o_getf 12 3 (o_i (1) (o_iadd (o_puti 12 3 (o_aload 0 (o_i (1) (o_iload 1 (o_stcB (g, d, ck, sk, xX12_atom, Q) xX12_letterOf 1 0 0 (o_invB (g, d, ck, sk, xX12_atom, Q) xX12_put 2 12 0 0 (o_ret (g, d, ck, sk, xX12_atom, Q))))))))))))))))) (o_aload 0 (o_i (0) (o_aload 0 (o_invB (g, d, ck, sk, xX12_atom, Q) xX12_plainNumber 0 12 0 0 (o_invB (g, d, ck, sk, xX12_atom, Q) xX12_put 2 12 0 0 (o_ret (g, d, ck, sk, xX12_atom, Q))))))))))))
set_option maxRecDepth 20000 in
theorem tX12_atom_0 {g : sk_G} {d ck sk : Nat} {Q : sk_P} : sk_S (g, d, ck, sk, xX12_atom, Q) 0 (kX12_atom_0 g d ck sk Q) := s_aload_n dX12_atom_0 rfl (s_invB (w' := (g, d, ck, sk, xX12_atom, Q)) (ci := 12) (ck := 0) (sk := 0) (T := TX12) (N := 49) dX12_atom_1 m_X12_look rfl (by decide) qm_X12_138 qi_X12_look qe_X12_look rfl (s_istore_n dX12_atom_4 rfl (by decide : 1 < 2) (s_iload_n dX12_atom_5 rfl (s_stcT (X := xX12_isDigit) (K := (fun Q => kX12_isDigit_0 g (d - 1) 0 0 Q)) (fun _ => tX12_isDigit_0) rfl dX12_atom_6 m_X12_isDigit qm_X12_141 qs_X12_isDigit (s_ifeq (tgt := 24) dX12_atom_9 (by decide) (s_iload_n dX12_atom_24 rfl (s_stcB (w' := (g, d, ck, sk, xX12_atom, Q)) (ck := 0) (sk := 0) dX12_atom_25 m_X12_letterOf qm_X12_152 qs_X12_letterOf rfl (s_iconst dX12_atom_28 (s_iceq (tgt := 54) dX12_atom_29 (by decide) (s_iload_n dX12_atom_54 rfl (s_bipush dX12_atom_55 rfl (s_icne (tgt := 85) dX12_atom_57 (by decide) (s_aload_n dX12_atom_85 rfl (s_invT (X := xX12_bad) (ci := 12) (T := TX12) (N := 49) (K := (fun Q => kX12_bad_0 g (d - 1) 0 0 Q)) (fun _ => tX12_bad_0) rfl dX12_atom_86 m_X12_bad rfl (by decide) qm_X12_135 qi_X12_bad qe_X12_bad (s_ret dX12_atom_89 rfl))) (s_aload_n dX12_atom_60 rfl (s_invB (w' := (g, d, ck, sk, xX12_atom, Q)) (ci := 12) (ck := 0) (sk := 0) (T := TX12) (N := 49) dX12_atom_61 m_X12_opens rfl (by decide) qm_X12_156 qi_X12_opens qe_X12_opens rfl (s_aload_n dX12_atom_64 rfl (s_getf (ci := 12) (j := 4) (C := RX12) (T := TX12) (N := 49) dX12_atom_65 rfl (by decide) (by decide) qf_X12_126 (s_iconst dX12_atom_68 (s_icne (tgt := 89) dX12_atom_69 (by decide) (s_ret dX12_atom_89 rfl) (s_aload_n dX12_atom_72 rfl (s_invB (w' := (g, d, ck, sk, xX12_atom, Q)) (ci := 12) (ck := 0) (sk := 0) (T := TX12) (N := 49) dX12_atom_73 m_X12_sum rfl (by decide) qm_X12_159 qi_X12_sum qe_X12_sum rfl (s_aload_n dX12_atom_76 rfl (s_bipush dX12_atom_77 rfl (s_invB (w' := (g, d, ck, sk, xX12_atom, Q)) (ci := 12) (ck := 0) (sk := 0) (T := TX12) (N := 49) dX12_atom_79 m_X12_closes rfl (by decide) qm_X12_162 qi_X12_closes qe_X12_closes rfl (s_goto (tgt := 89) dX12_atom_82 (by decide) (s_ret dX12_atom_89 rfl)))))))))))))))) (s_aload_n dX12_atom_32 rfl (s_dup dX12_atom_33 (s_getf (ci := 12) (j := 3) (C := RX12) (T := TX12) (N := 49) dX12_atom_34 rfl (by decide) (by decide) qf_X12_119 (s_iconst dX12_atom_37 (s_iadd dX12_atom_38 (s_puti (ci := 12) (j := 3) (C := RX12) (T := TX12) (N := 49) dX12_atom_39 rfl (by decide) (by decide) rfl (tyX12_ok 3 (by decide)) qf_X12_119 (s_aload_n dX12_atom_42 rfl (s_iconst dX12_atom_43 (s_iload_n dX12_atom_44 rfl (s_stcB (w' := (g, d, ck, sk, xX12_atom, Q)) (ck := 0) (sk := 0) dX12_atom_45 m_X12_letterOf qm_X12_152 qs_X12_letterOf rfl (s_invB (w' := (g, d, ck, sk, xX12_atom, Q)) (ci := 12) (ck := 0) (sk := 0) (T := TX12) (N := 49) dX12_atom_48 m_X12_put rfl (by decide) qm_X12_148 qi_X12_put qe_X12_put rfl (s_goto (tgt := 89) dX12_atom_51 (by decide) (s_ret dX12_atom_89 rfl))))))))))))))))) (s_aload_n dX12_atom_12 rfl (s_iconst dX12_atom_13 (s_aload_n dX12_atom_14 rfl (s_invB (w' := (g, d, ck, sk, xX12_atom, Q)) (ci := 12) (ck := 0) (sk := 0) (T := TX12) (N := 49) dX12_atom_15 m_X12_plainNumber rfl (by decide) qm_X12_145 qi_X12_plainNumber qe_X12_plainNumber rfl (s_invB (w' := (g, d, ck, sk, xX12_atom, Q)) (ci := 12) (ck := 0) (sk := 0) (T := TX12) (N := 49) dX12_atom_18 m_X12_put rfl (by decide) qm_X12_148 qi_X12_put qe_X12_put rfl (s_goto (tgt := 89) dX12_atom_21 (by decide) (s_ret dX12_atom_89 rfl))))))))))))
theorem dX12_plainNumber_0 : decode cX12_plainNumber 0 = .ok (.iconst 0, 1) := by decide +kernel
theorem dX12_plainNumber_1 : decode cX12_plainNumber 1 = .ok (.istore_n 1, 1) := by decide +kernel
theorem dX12_plainNumber_2 : decode cX12_plainNumber 2 = .ok (.iconst 0, 1) := by decide +kernel
theorem dX12_plainNumber_3 : decode cX12_plainNumber 3 = .ok (.istore_n 2, 1) := by decide +kernel
theorem dX12_plainNumber_4 : decode cX12_plainNumber 4 = .ok (.iload_n 2, 1) := by decide +kernel
theorem dX12_plainNumber_5 : decode cX12_plainNumber 5 = .ok (.iconst 4, 1) := by decide +kernel
theorem dX12_plainNumber_6 : decode cX12_plainNumber 6 = .ok (.if_icmp .ge 42, 3) := by decide +kernel
theorem dX12_plainNumber_9 : decode cX12_plainNumber 9 = .ok (.aload_n 0, 1) := by decide +kernel
theorem dX12_plainNumber_10 : decode cX12_plainNumber 10 = .ok (.invokevirtual 122, 3) := by decide +kernel
theorem dX12_plainNumber_13 : decode cX12_plainNumber 13 = .ok (.invokestatic 141, 3) := by decide +kernel
theorem dX12_plainNumber_16 : decode cX12_plainNumber 16 = .ok (.ifCond .eq 32, 3) := by decide +kernel
theorem dX12_plainNumber_19 : decode cX12_plainNumber 19 = .ok (.bipush 10, 2) := by decide +kernel
theorem dX12_plainNumber_21 : decode cX12_plainNumber 21 = .ok (.iload_n 1, 1) := by decide +kernel
theorem dX12_plainNumber_22 : decode cX12_plainNumber 22 = .ok (.imul, 1) := by decide +kernel
theorem dX12_plainNumber_23 : decode cX12_plainNumber 23 = .ok (.aload_n 0, 1) := by decide +kernel
theorem dX12_plainNumber_24 : decode cX12_plainNumber 24 = .ok (.invokevirtual 122, 3) := by decide +kernel
theorem dX12_plainNumber_27 : decode cX12_plainNumber 27 = .ok (.iadd, 1) := by decide +kernel
theorem dX12_plainNumber_28 : decode cX12_plainNumber 28 = .ok (.bipush 48, 2) := by decide +kernel
theorem dX12_plainNumber_30 : decode cX12_plainNumber 30 = .ok (.isub, 1) := by decide +kernel
theorem dX12_plainNumber_31 : decode cX12_plainNumber 31 = .ok (.istore_n 1, 1) := by decide +kernel
theorem dX12_plainNumber_32 : decode cX12_plainNumber 32 = .ok (.aload_n 0, 1) := by decide +kernel
theorem dX12_plainNumber_33 : decode cX12_plainNumber 33 = .ok (.dup, 1) := by decide +kernel
theorem dX12_plainNumber_34 : decode cX12_plainNumber 34 = .ok (.getfield 119, 3) := by decide +kernel
theorem dX12_plainNumber_37 : decode cX12_plainNumber 37 = .ok (.iconst 1, 1) := by decide +kernel
theorem dX12_plainNumber_38 : decode cX12_plainNumber 38 = .ok (.iadd, 1) := by decide +kernel
theorem dX12_plainNumber_39 : decode cX12_plainNumber 39 = .ok (.putfield 119, 3) := by decide +kernel
theorem dX12_plainNumber_42 : decode cX12_plainNumber 42 = .ok (.iinc 2 1, 3) := by decide +kernel
theorem dX12_plainNumber_45 : decode cX12_plainNumber 45 = .ok (.goto (-41), 3) := by decide +kernel
theorem dX12_plainNumber_48 : decode cX12_plainNumber 48 = .ok (.aload_n 0, 1) := by decide +kernel
theorem dX12_plainNumber_49 : decode cX12_plainNumber 49 = .ok (.invokevirtual 122, 3) := by decide +kernel
theorem dX12_plainNumber_52 : decode cX12_plainNumber 52 = .ok (.invokestatic 141, 3) := by decide +kernel
theorem dX12_plainNumber_55 : decode cX12_plainNumber 55 = .ok (.ifCond .eq 7, 3) := by decide +kernel
theorem dX12_plainNumber_58 : decode cX12_plainNumber 58 = .ok (.aload_n 0, 1) := by decide +kernel
theorem dX12_plainNumber_59 : decode cX12_plainNumber 59 = .ok (.invokevirtual 135, 3) := by decide +kernel
theorem dX12_plainNumber_62 : decode cX12_plainNumber 62 = .ok (.iload_n 1, 1) := by decide +kernel
theorem dX12_plainNumber_63 : decode cX12_plainNumber 63 = .ok (.ireturn, 1) := by decide +kernel
def kX12_plainNumber_0 (g : sk_G) (d ck sk : Nat) (Q : sk_P) : sk_K := o_i (0) (o_istore 1 (o_i (0) (o_istore 2 (sk_B (g, d, ck, sk, xX12_plainNumber, Q) 4))))
theorem tX12_plainNumber_0 {g : sk_G} {d ck sk : Nat} {Q : sk_P} : sk_S (g, d, ck, sk, xX12_plainNumber, Q) 0 (kX12_plainNumber_0 g d ck sk Q) := s_iconst dX12_plainNumber_0 (s_istore_n dX12_plainNumber_1 rfl (by decide : 1 < 3) (s_iconst dX12_plainNumber_2 (s_istore_n dX12_plainNumber_3 rfl (by decide : 2 < 3) (sk_id))))
set_option maxRecDepth 20000 in
def kX12_plainNumber_4 (g : sk_G) (d ck sk : Nat) (Q : sk_P) : sk_K := o_iload 2 (o_i (4) (o_icge (sk_B (g, d, ck, sk, xX12_plainNumber, Q) 48) (o_aload 0 (o_invT (g, d, ck, sk, xX12_plainNumber, Q) 1 0 12 (fun Q => kX12_here_0 g (d - 1) 0 0 Q) (o_stcT (g, d, ck, sk, xX12_plainNumber, Q) 1 1 (fun Q => kX12_isDigit_0 g (d - 1) 0 0 Q) (o_ifeq (sk_B (g, d, ck, sk, xX12_plainNumber, Q) 48) (o_i (10) (o_iload 1 (o_imul (o_aload 0 (o_invT (g, d, ck, sk, xX12_plainNumber, Q) 1 0 12 (fun Q => kX12_here_0 g (d - 1) 0 0 Q) (o_iadd (o_i (48) (o_isub (o_istore 1 (o_aload 0 (o_dup (o_getf 12 3 (o_i (1) (o_iadd (o_puti 12 3 (o_iinc 2 (1) (sk_B (g, d, ck, sk, xX12_plainNumber, Q) 4)))))))))))))))))))))))
set_option maxRecDepth 20000 in
theorem tX12_plainNumber_4 {g : sk_G} {d ck sk : Nat} {Q : sk_P} : sk_S (g, d, ck, sk, xX12_plainNumber, Q) 4 (kX12_plainNumber_4 g d ck sk Q) := s_iload_n dX12_plainNumber_4 rfl (s_iconst dX12_plainNumber_5 (s_icge (tgt := 48) dX12_plainNumber_6 (by decide) (sk_id) (s_aload_n dX12_plainNumber_9 rfl (s_invT (X := xX12_here) (ci := 12) (T := TX12) (N := 49) (K := (fun Q => kX12_here_0 g (d - 1) 0 0 Q)) (fun _ => tX12_here_0) rfl dX12_plainNumber_10 m_X12_here rfl (by decide) qm_X12_122 qi_X12_here qe_X12_here (s_stcT (X := xX12_isDigit) (K := (fun Q => kX12_isDigit_0 g (d - 1) 0 0 Q)) (fun _ => tX12_isDigit_0) rfl dX12_plainNumber_13 m_X12_isDigit qm_X12_141 qs_X12_isDigit (s_ifeq (tgt := 48) dX12_plainNumber_16 (by decide) (sk_id) (s_bipush dX12_plainNumber_19 rfl (s_iload_n dX12_plainNumber_21 rfl (s_imul dX12_plainNumber_22 (s_aload_n dX12_plainNumber_23 rfl (s_invT (X := xX12_here) (ci := 12) (T := TX12) (N := 49) (K := (fun Q => kX12_here_0 g (d - 1) 0 0 Q)) (fun _ => tX12_here_0) rfl dX12_plainNumber_24 m_X12_here rfl (by decide) qm_X12_122 qi_X12_here qe_X12_here (s_iadd dX12_plainNumber_27 (s_bipush dX12_plainNumber_28 rfl (s_isub dX12_plainNumber_30 (s_istore_n dX12_plainNumber_31 rfl (by decide : 1 < 3) (s_aload_n dX12_plainNumber_32 rfl (s_dup dX12_plainNumber_33 (s_getf (ci := 12) (j := 3) (C := RX12) (T := TX12) (N := 49) dX12_plainNumber_34 rfl (by decide) (by decide) qf_X12_119 (s_iconst dX12_plainNumber_37 (s_iadd dX12_plainNumber_38 (s_puti (ci := 12) (j := 3) (C := RX12) (T := TX12) (N := 49) dX12_plainNumber_39 rfl (by decide) (by decide) rfl (tyX12_ok 3 (by decide)) qf_X12_119 (s_iinc dX12_plainNumber_42 (by decide : 2 < 3) (s_goto (tgt := 4) dX12_plainNumber_45 (by decide) (sk_id))))))))))))))))))))))))
set_option maxRecDepth 20000 in
def kX12_plainNumber_48 (g : sk_G) (d ck sk : Nat) (Q : sk_P) : sk_K := o_aload 0 (o_invT (g, d, ck, sk, xX12_plainNumber, Q) 1 0 12 (fun Q => kX12_here_0 g (d - 1) 0 0 Q) (o_stcT (g, d, ck, sk, xX12_plainNumber, Q) 1 1 (fun Q => kX12_isDigit_0 g (d - 1) 0 0 Q) (o_ifeq (o_iload 1 (o_iret (g, d, ck, sk, xX12_plainNumber, Q))) (o_aload 0 (o_invT (g, d, ck, sk, xX12_plainNumber, Q) 1 0 12 (fun Q => kX12_bad_0 g (d - 1) 0 0 Q) (o_iload 1 (o_iret (g, d, ck, sk, xX12_plainNumber, Q))))))))
set_option maxRecDepth 20000 in
theorem tX12_plainNumber_48 {g : sk_G} {d ck sk : Nat} {Q : sk_P} : sk_S (g, d, ck, sk, xX12_plainNumber, Q) 48 (kX12_plainNumber_48 g d ck sk Q) := s_aload_n dX12_plainNumber_48 rfl (s_invT (X := xX12_here) (ci := 12) (T := TX12) (N := 49) (K := (fun Q => kX12_here_0 g (d - 1) 0 0 Q)) (fun _ => tX12_here_0) rfl dX12_plainNumber_49 m_X12_here rfl (by decide) qm_X12_122 qi_X12_here qe_X12_here (s_stcT (X := xX12_isDigit) (K := (fun Q => kX12_isDigit_0 g (d - 1) 0 0 Q)) (fun _ => tX12_isDigit_0) rfl dX12_plainNumber_52 m_X12_isDigit qm_X12_141 qs_X12_isDigit (s_ifeq (tgt := 62) dX12_plainNumber_55 (by decide) (s_iload_n dX12_plainNumber_62 rfl (s_iret dX12_plainNumber_63 rfl)) (s_aload_n dX12_plainNumber_58 rfl (s_invT (X := xX12_bad) (ci := 12) (T := TX12) (N := 49) (K := (fun Q => kX12_bad_0 g (d - 1) 0 0 Q)) (fun _ => tX12_bad_0) rfl dX12_plainNumber_59 m_X12_bad rfl (by decide) qm_X12_135 qi_X12_bad qe_X12_bad (s_iload_n dX12_plainNumber_62 rfl (s_iret dX12_plainNumber_63 rfl)))))))
theorem dX12_letterOf_0 : decode cX12_letterOf 0 = .ok (.iload_n 0, 1) := by decide +kernel
theorem dX12_letterOf_1 : decode cX12_letterOf 1 = .ok (.bipush 115, 2) := by decide +kernel
theorem dX12_letterOf_3 : decode cX12_letterOf 3 = .ok (.if_icmp .ne 7, 3) := by decide +kernel
theorem dX12_letterOf_6 : decode cX12_letterOf 6 = .ok (.iconst 0, 1) := by decide +kernel
theorem dX12_letterOf_7 : decode cX12_letterOf 7 = .ok (.goto 54, 3) := by decide +kernel
theorem dX12_letterOf_10 : decode cX12_letterOf 10 = .ok (.iload_n 0, 1) := by decide +kernel
theorem dX12_letterOf_11 : decode cX12_letterOf 11 = .ok (.bipush 100, 2) := by decide +kernel
theorem dX12_letterOf_13 : decode cX12_letterOf 13 = .ok (.if_icmp .ne 7, 3) := by decide +kernel
theorem dX12_letterOf_16 : decode cX12_letterOf 16 = .ok (.iconst 1, 1) := by decide +kernel
theorem dX12_letterOf_17 : decode cX12_letterOf 17 = .ok (.goto 44, 3) := by decide +kernel
theorem dX12_letterOf_20 : decode cX12_letterOf 20 = .ok (.iload_n 0, 1) := by decide +kernel
theorem dX12_letterOf_21 : decode cX12_letterOf 21 = .ok (.bipush 102, 2) := by decide +kernel
theorem dX12_letterOf_23 : decode cX12_letterOf 23 = .ok (.if_icmp .ne 7, 3) := by decide +kernel
theorem dX12_letterOf_26 : decode cX12_letterOf 26 = .ok (.iconst 2, 1) := by decide +kernel
theorem dX12_letterOf_27 : decode cX12_letterOf 27 = .ok (.goto 34, 3) := by decide +kernel
theorem dX12_letterOf_30 : decode cX12_letterOf 30 = .ok (.iload_n 0, 1) := by decide +kernel
theorem dX12_letterOf_31 : decode cX12_letterOf 31 = .ok (.bipush 105, 2) := by decide +kernel
theorem dX12_letterOf_33 : decode cX12_letterOf 33 = .ok (.if_icmp .ne 7, 3) := by decide +kernel
theorem dX12_letterOf_36 : decode cX12_letterOf 36 = .ok (.iconst 3, 1) := by decide +kernel
theorem dX12_letterOf_37 : decode cX12_letterOf 37 = .ok (.goto 24, 3) := by decide +kernel
theorem dX12_letterOf_40 : decode cX12_letterOf 40 = .ok (.iload_n 0, 1) := by decide +kernel
theorem dX12_letterOf_41 : decode cX12_letterOf 41 = .ok (.bipush 114, 2) := by decide +kernel
theorem dX12_letterOf_43 : decode cX12_letterOf 43 = .ok (.if_icmp .ne 7, 3) := by decide +kernel
theorem dX12_letterOf_46 : decode cX12_letterOf 46 = .ok (.iconst 4, 1) := by decide +kernel
theorem dX12_letterOf_47 : decode cX12_letterOf 47 = .ok (.goto 14, 3) := by decide +kernel
theorem dX12_letterOf_50 : decode cX12_letterOf 50 = .ok (.iload_n 0, 1) := by decide +kernel
theorem dX12_letterOf_51 : decode cX12_letterOf 51 = .ok (.bipush 121, 2) := by decide +kernel
theorem dX12_letterOf_53 : decode cX12_letterOf 53 = .ok (.if_icmp .ne 7, 3) := by decide +kernel
theorem dX12_letterOf_56 : decode cX12_letterOf 56 = .ok (.iconst 5, 1) := by decide +kernel
theorem dX12_letterOf_57 : decode cX12_letterOf 57 = .ok (.goto 4, 3) := by decide +kernel
theorem dX12_letterOf_60 : decode cX12_letterOf 60 = .ok (.iconst (-1), 1) := by decide +kernel
theorem dX12_letterOf_61 : decode cX12_letterOf 61 = .ok (.ireturn, 1) := by decide +kernel
set_option maxRecDepth 20000 in
def kX12_letterOf_0 (g : sk_G) (d ck sk : Nat) (Q : sk_P) : sk_K := o_iload 0 (o_i (115) (o_icne (o_iload 0 (o_i (100) (o_icne (o_iload 0 (o_i (102) (o_icne (o_iload 0 (o_i (105) (o_icne (o_iload 0 (o_i (114) (o_icne (o_iload 0 (o_i (121) (o_icne (o_i (-1) (o_iret (g, d, ck, sk, xX12_letterOf, Q))) (o_i (5) (o_iret (g, d, ck, sk, xX12_letterOf, Q)))))) (o_i (4) (o_iret (g, d, ck, sk, xX12_letterOf, Q)))))) (o_i (3) (o_iret (g, d, ck, sk, xX12_letterOf, Q)))))) (o_i (2) (o_iret (g, d, ck, sk, xX12_letterOf, Q)))))) (o_i (1) (o_iret (g, d, ck, sk, xX12_letterOf, Q)))))) (o_i (0) (o_iret (g, d, ck, sk, xX12_letterOf, Q)))))
set_option maxRecDepth 20000 in
theorem tX12_letterOf_0 {g : sk_G} {d ck sk : Nat} {Q : sk_P} : sk_S (g, d, ck, sk, xX12_letterOf, Q) 0 (kX12_letterOf_0 g d ck sk Q) := s_iload_n dX12_letterOf_0 rfl (s_bipush dX12_letterOf_1 rfl (s_icne (tgt := 10) dX12_letterOf_3 (by decide) (s_iload_n dX12_letterOf_10 rfl (s_bipush dX12_letterOf_11 rfl (s_icne (tgt := 20) dX12_letterOf_13 (by decide) (s_iload_n dX12_letterOf_20 rfl (s_bipush dX12_letterOf_21 rfl (s_icne (tgt := 30) dX12_letterOf_23 (by decide) (s_iload_n dX12_letterOf_30 rfl (s_bipush dX12_letterOf_31 rfl (s_icne (tgt := 40) dX12_letterOf_33 (by decide) (s_iload_n dX12_letterOf_40 rfl (s_bipush dX12_letterOf_41 rfl (s_icne (tgt := 50) dX12_letterOf_43 (by decide) (s_iload_n dX12_letterOf_50 rfl (s_bipush dX12_letterOf_51 rfl (s_icne (tgt := 60) dX12_letterOf_53 (by decide) (s_iconst dX12_letterOf_60 (s_iret dX12_letterOf_61 rfl)) (s_iconst dX12_letterOf_56 (s_goto (tgt := 61) dX12_letterOf_57 (by decide) (s_iret dX12_letterOf_61 rfl)))))) (s_iconst dX12_letterOf_46 (s_goto (tgt := 61) dX12_letterOf_47 (by decide) (s_iret dX12_letterOf_61 rfl)))))) (s_iconst dX12_letterOf_36 (s_goto (tgt := 61) dX12_letterOf_37 (by decide) (s_iret dX12_letterOf_61 rfl)))))) (s_iconst dX12_letterOf_26 (s_goto (tgt := 61) dX12_letterOf_27 (by decide) (s_iret dX12_letterOf_61 rfl)))))) (s_iconst dX12_letterOf_16 (s_goto (tgt := 61) dX12_letterOf_17 (by decide) (s_iret dX12_letterOf_61 rfl)))))) (s_iconst dX12_letterOf_6 (s_goto (tgt := 61) dX12_letterOf_7 (by decide) (s_iret dX12_letterOf_61 rfl)))))
theorem dX12_compare_0 : decode cX12_compare 0 = .ok (.aload_n 0, 1) := by decide +kernel
theorem dX12_compare_1 : decode cX12_compare 1 = .ok (.getfield 126, 3) := by decide +kernel
theorem dX12_compare_4 : decode cX12_compare 4 = .ok (.iconst (-1), 1) := by decide +kernel
theorem dX12_compare_5 : decode cX12_compare 5 = .ok (.if_icmp .ne 10, 3) := by decide +kernel
theorem dX12_compare_8 : decode cX12_compare 8 = .ok (.aload_n 0, 1) := by decide +kernel
theorem dX12_compare_9 : decode cX12_compare 9 = .ok (.invokevirtual 138, 3) := by decide +kernel
theorem dX12_compare_12 : decode cX12_compare 12 = .ok (.goto 4, 3) := by decide +kernel
theorem dX12_compare_15 : decode cX12_compare 15 = .ok (.iconst (-1), 1) := by decide +kernel
theorem dX12_compare_16 : decode cX12_compare 16 = .ok (.istore_n 1, 1) := by decide +kernel
theorem dX12_compare_17 : decode cX12_compare 17 = .ok (.iload_n 1, 1) := by decide +kernel
theorem dX12_compare_18 : decode cX12_compare 18 = .ok (.invokestatic 172, 3) := by decide +kernel
theorem dX12_compare_21 : decode cX12_compare 21 = .ok (.ifCond .ne 8, 3) := by decide +kernel
theorem dX12_compare_24 : decode cX12_compare 24 = .ok (.aload_n 0, 1) := by decide +kernel
theorem dX12_compare_25 : decode cX12_compare 25 = .ok (.invokevirtual 135, 3) := by decide +kernel
theorem dX12_compare_28 : decode cX12_compare 28 = .ok (.return_, 1) := by decide +kernel
theorem dX12_compare_29 : decode cX12_compare 29 = .ok (.aload_n 0, 1) := by decide +kernel
theorem dX12_compare_30 : decode cX12_compare 30 = .ok (.dup, 1) := by decide +kernel
theorem dX12_compare_31 : decode cX12_compare 31 = .ok (.getfield 119, 3) := by decide +kernel
theorem dX12_compare_34 : decode cX12_compare 34 = .ok (.iconst 1, 1) := by decide +kernel
theorem dX12_compare_35 : decode cX12_compare 35 = .ok (.iadd, 1) := by decide +kernel
theorem dX12_compare_36 : decode cX12_compare 36 = .ok (.putfield 119, 3) := by decide +kernel
theorem dX12_compare_39 : decode cX12_compare 39 = .ok (.aload_n 0, 1) := by decide +kernel
theorem dX12_compare_40 : decode cX12_compare 40 = .ok (.invokevirtual 159, 3) := by decide +kernel
theorem dX12_compare_43 : decode cX12_compare 43 = .ok (.aload_n 0, 1) := by decide +kernel
theorem dX12_compare_44 : decode cX12_compare 44 = .ok (.iload_n 1, 1) := by decide +kernel
theorem dX12_compare_45 : decode cX12_compare 45 = .ok (.bipush 61, 2) := by decide +kernel
theorem dX12_compare_47 : decode cX12_compare 47 = .ok (.if_icmp .ne 8, 3) := by decide +kernel
theorem dX12_compare_50 : decode cX12_compare 50 = .ok (.bipush 6, 2) := by decide +kernel
theorem dX12_compare_52 : decode cX12_compare 52 = .ok (.goto 16, 3) := by decide +kernel
theorem dX12_compare_55 : decode cX12_compare 55 = .ok (.iload_n 1, 1) := by decide +kernel
theorem dX12_compare_56 : decode cX12_compare 56 = .ok (.bipush 60, 2) := by decide +kernel
theorem dX12_compare_58 : decode cX12_compare 58 = .ok (.if_icmp .ne 8, 3) := by decide +kernel
theorem dX12_compare_61 : decode cX12_compare 61 = .ok (.bipush 7, 2) := by decide +kernel
theorem dX12_compare_63 : decode cX12_compare 63 = .ok (.goto 5, 3) := by decide +kernel
theorem dX12_compare_66 : decode cX12_compare 66 = .ok (.bipush 8, 2) := by decide +kernel
theorem dX12_compare_68 : decode cX12_compare 68 = .ok (.iconst 0, 1) := by decide +kernel
theorem dX12_compare_69 : decode cX12_compare 69 = .ok (.invokevirtual 148, 3) := by decide +kernel
theorem dX12_compare_72 : decode cX12_compare 72 = .ok (.return_, 1) := by decide +kernel
def kX12_compare_0 (g : sk_G) (d ck sk : Nat) (Q : sk_P) : sk_K := o_aload 0 (o_getf 12 4 (o_i (-1) (o_icne (o_i (-1) (sk_B (g, d, ck, sk, xX12_compare, Q) 16)) (o_aload 0 (o_invB (g, d, ck, sk, xX12_compare, Q) xX12_look 0 12 0 0 (sk_B (g, d, ck, sk, xX12_compare, Q) 16))))))
theorem tX12_compare_0 {g : sk_G} {d ck sk : Nat} {Q : sk_P} : sk_S (g, d, ck, sk, xX12_compare, Q) 0 (kX12_compare_0 g d ck sk Q) := s_aload_n dX12_compare_0 rfl (s_getf (ci := 12) (j := 4) (C := RX12) (T := TX12) (N := 49) dX12_compare_1 rfl (by decide) (by decide) qf_X12_126 (s_iconst dX12_compare_4 (s_icne (tgt := 15) dX12_compare_5 (by decide) (s_iconst dX12_compare_15 (sk_id)) (s_aload_n dX12_compare_8 rfl (s_invB (w' := (g, d, ck, sk, xX12_compare, Q)) (ci := 12) (ck := 0) (sk := 0) (T := TX12) (N := 49) dX12_compare_9 m_X12_look rfl (by decide) qm_X12_138 qi_X12_look qe_X12_look rfl (s_goto (tgt := 16) dX12_compare_12 (by decide) (sk_id)))))))
set_option maxRecDepth 20000 in
def kX12_compare_16 (g : sk_G) (d ck sk : Nat) (Q : sk_P) : sk_K := o_istore 1 (o_iload 1 (o_stcT (g, d, ck, sk, xX12_compare, Q) 1 1 (fun Q => kX12_isSign_0 g (d - 1) 0 0 Q) (o_ifne (o_aload 0 (o_dup (o_getf 12 3 (o_i (1) (o_iadd (o_puti 12 3 (o_aload 0 (o_invB (g, d, ck, sk, xX12_compare, Q) xX12_sum 0 12 0 0 (o_aload 0 (o_iload 1 (o_i (61) (o_icne (o_iload 1 (o_i (60) (o_icne (o_i (8) (o_i (0) (o_invB (g, d, ck, sk, xX12_compare, Q) xX12_put 2 12 0 0 (o_ret (g, d, ck, sk, xX12_compare, Q))))) (o_i (7) (o_i (0) (o_invB (g, d, ck, sk, xX12_compare, Q) xX12_put 2 12 0 0 (o_ret (g, d, ck, sk, xX12_compare, Q)))))))) (o_i (6) (o_i (0) (o_invB (g, d, ck, sk, xX12_compare, Q) xX12_put 2 12 0 0 (o_ret (g, d, ck, sk, xX12_compare, Q))))))))))))))))) (o_aload 0 (o_invT (g, d, ck, sk, xX12_compare, Q) 1 0 12 (fun Q => kX12_bad_0 g (d - 1) 0 0 Q) (o_ret (g, d, ck, sk, xX12_compare, Q)))))))
set_option maxRecDepth 20000 in
theorem tX12_compare_16 {g : sk_G} {d ck sk : Nat} {Q : sk_P} : sk_S (g, d, ck, sk, xX12_compare, Q) 16 (kX12_compare_16 g d ck sk Q) := s_istore_n dX12_compare_16 rfl (by decide : 1 < 2) (s_iload_n dX12_compare_17 rfl (s_stcT (X := xX12_isSign) (K := (fun Q => kX12_isSign_0 g (d - 1) 0 0 Q)) (fun _ => tX12_isSign_0) rfl dX12_compare_18 m_X12_isSign qm_X12_172 qs_X12_isSign (s_ifne (tgt := 29) dX12_compare_21 (by decide) (s_aload_n dX12_compare_29 rfl (s_dup dX12_compare_30 (s_getf (ci := 12) (j := 3) (C := RX12) (T := TX12) (N := 49) dX12_compare_31 rfl (by decide) (by decide) qf_X12_119 (s_iconst dX12_compare_34 (s_iadd dX12_compare_35 (s_puti (ci := 12) (j := 3) (C := RX12) (T := TX12) (N := 49) dX12_compare_36 rfl (by decide) (by decide) rfl (tyX12_ok 3 (by decide)) qf_X12_119 (s_aload_n dX12_compare_39 rfl (s_invB (w' := (g, d, ck, sk, xX12_compare, Q)) (ci := 12) (ck := 0) (sk := 0) (T := TX12) (N := 49) dX12_compare_40 m_X12_sum rfl (by decide) qm_X12_159 qi_X12_sum qe_X12_sum rfl (s_aload_n dX12_compare_43 rfl (s_iload_n dX12_compare_44 rfl (s_bipush dX12_compare_45 rfl (s_icne (tgt := 55) dX12_compare_47 (by decide) (s_iload_n dX12_compare_55 rfl (s_bipush dX12_compare_56 rfl (s_icne (tgt := 66) dX12_compare_58 (by decide) (s_bipush dX12_compare_66 rfl (s_iconst dX12_compare_68 (s_invB (w' := (g, d, ck, sk, xX12_compare, Q)) (ci := 12) (ck := 0) (sk := 0) (T := TX12) (N := 49) dX12_compare_69 m_X12_put rfl (by decide) qm_X12_148 qi_X12_put qe_X12_put rfl (s_ret dX12_compare_72 rfl)))) (s_bipush dX12_compare_61 rfl (s_goto (tgt := 68) dX12_compare_63 (by decide) (s_iconst dX12_compare_68 (s_invB (w' := (g, d, ck, sk, xX12_compare, Q)) (ci := 12) (ck := 0) (sk := 0) (T := TX12) (N := 49) dX12_compare_69 m_X12_put rfl (by decide) qm_X12_148 qi_X12_put qe_X12_put rfl (s_ret dX12_compare_72 rfl)))))))) (s_bipush dX12_compare_50 rfl (s_goto (tgt := 68) dX12_compare_52 (by decide) (s_iconst dX12_compare_68 (s_invB (w' := (g, d, ck, sk, xX12_compare, Q)) (ci := 12) (ck := 0) (sk := 0) (T := TX12) (N := 49) dX12_compare_69 m_X12_put rfl (by decide) qm_X12_148 qi_X12_put qe_X12_put rfl (s_ret dX12_compare_72 rfl))))))))))))))))) (s_aload_n dX12_compare_24 rfl (s_invT (X := xX12_bad) (ci := 12) (T := TX12) (N := 49) (K := (fun Q => kX12_bad_0 g (d - 1) 0 0 Q)) (fun _ => tX12_bad_0) rfl dX12_compare_25 m_X12_bad rfl (by decide) qm_X12_135 qi_X12_bad qe_X12_bad (s_ret dX12_compare_28 rfl))))))
theorem dX12_goOnAnd_0 : decode cX12_goOnAnd 0 = .ok (.aload_n 0, 1) := by decide +kernel
theorem dX12_goOnAnd_1 : decode cX12_goOnAnd 1 = .ok (.getfield 126, 3) := by decide +kernel
theorem dX12_goOnAnd_4 : decode cX12_goOnAnd 4 = .ok (.iconst (-1), 1) := by decide +kernel
theorem dX12_goOnAnd_5 : decode cX12_goOnAnd 5 = .ok (.if_icmp .ne 36, 3) := by decide +kernel
theorem dX12_goOnAnd_8 : decode cX12_goOnAnd 8 = .ok (.aload_n 0, 1) := by decide +kernel
theorem dX12_goOnAnd_9 : decode cX12_goOnAnd 9 = .ok (.invokevirtual 138, 3) := by decide +kernel
theorem dX12_goOnAnd_12 : decode cX12_goOnAnd 12 = .ok (.bipush 38, 2) := by decide +kernel
theorem dX12_goOnAnd_14 : decode cX12_goOnAnd 14 = .ok (.if_icmp .ne 27, 3) := by decide +kernel
theorem dX12_goOnAnd_17 : decode cX12_goOnAnd 17 = .ok (.aload_n 0, 1) := by decide +kernel
theorem dX12_goOnAnd_18 : decode cX12_goOnAnd 18 = .ok (.dup, 1) := by decide +kernel
theorem dX12_goOnAnd_19 : decode cX12_goOnAnd 19 = .ok (.getfield 119, 3) := by decide +kernel
theorem dX12_goOnAnd_22 : decode cX12_goOnAnd 22 = .ok (.iconst 1, 1) := by decide +kernel
theorem dX12_goOnAnd_23 : decode cX12_goOnAnd 23 = .ok (.iadd, 1) := by decide +kernel
theorem dX12_goOnAnd_24 : decode cX12_goOnAnd 24 = .ok (.putfield 119, 3) := by decide +kernel
theorem dX12_goOnAnd_27 : decode cX12_goOnAnd 27 = .ok (.aload_n 0, 1) := by decide +kernel
theorem dX12_goOnAnd_28 : decode cX12_goOnAnd 28 = .ok (.invokevirtual 175, 3) := by decide +kernel
theorem dX12_goOnAnd_31 : decode cX12_goOnAnd 31 = .ok (.aload_n 0, 1) := by decide +kernel
theorem dX12_goOnAnd_32 : decode cX12_goOnAnd 32 = .ok (.bipush 10, 2) := by decide +kernel
theorem dX12_goOnAnd_34 : decode cX12_goOnAnd 34 = .ok (.iconst 0, 1) := by decide +kernel
theorem dX12_goOnAnd_35 : decode cX12_goOnAnd 35 = .ok (.invokevirtual 148, 3) := by decide +kernel
theorem dX12_goOnAnd_38 : decode cX12_goOnAnd 38 = .ok (.goto (-38), 3) := by decide +kernel
theorem dX12_goOnAnd_41 : decode cX12_goOnAnd 41 = .ok (.return_, 1) := by decide +kernel
set_option maxRecDepth 20000 in
def kX12_goOnAnd_0 (g : sk_G) (d ck sk : Nat) (Q : sk_P) : sk_K := o_aload 0 (o_getf 12 4 (o_i (-1) (o_icne (o_ret (g, d, ck, sk, xX12_goOnAnd, Q)) (o_aload 0 (o_invB (g, d, ck, sk, xX12_goOnAnd, Q) xX12_look 0 12 0 0 (o_i (38) (o_icne (o_ret (g, d, ck, sk, xX12_goOnAnd, Q)) (o_aload 0 (o_dup (o_getf 12 3 (o_i (1) (o_iadd (o_puti 12 3 (o_aload 0 (o_invB (g, d, ck, sk, xX12_goOnAnd, Q) xX12_unit 0 12 0 0 (o_aload 0 (o_i (10) (o_i (0) (o_invB (g, d, ck, sk, xX12_goOnAnd, Q) xX12_put 2 12 0 0 (sk_B (g, d, ck, sk, xX12_goOnAnd, Q) 0))))))))))))))))))))
set_option maxRecDepth 20000 in
theorem tX12_goOnAnd_0 {g : sk_G} {d ck sk : Nat} {Q : sk_P} : sk_S (g, d, ck, sk, xX12_goOnAnd, Q) 0 (kX12_goOnAnd_0 g d ck sk Q) := s_aload_n dX12_goOnAnd_0 rfl (s_getf (ci := 12) (j := 4) (C := RX12) (T := TX12) (N := 49) dX12_goOnAnd_1 rfl (by decide) (by decide) qf_X12_126 (s_iconst dX12_goOnAnd_4 (s_icne (tgt := 41) dX12_goOnAnd_5 (by decide) (s_ret dX12_goOnAnd_41 rfl) (s_aload_n dX12_goOnAnd_8 rfl (s_invB (w' := (g, d, ck, sk, xX12_goOnAnd, Q)) (ci := 12) (ck := 0) (sk := 0) (T := TX12) (N := 49) dX12_goOnAnd_9 m_X12_look rfl (by decide) qm_X12_138 qi_X12_look qe_X12_look rfl (s_bipush dX12_goOnAnd_12 rfl (s_icne (tgt := 41) dX12_goOnAnd_14 (by decide) (s_ret dX12_goOnAnd_41 rfl) (s_aload_n dX12_goOnAnd_17 rfl (s_dup dX12_goOnAnd_18 (s_getf (ci := 12) (j := 3) (C := RX12) (T := TX12) (N := 49) dX12_goOnAnd_19 rfl (by decide) (by decide) qf_X12_119 (s_iconst dX12_goOnAnd_22 (s_iadd dX12_goOnAnd_23 (s_puti (ci := 12) (j := 3) (C := RX12) (T := TX12) (N := 49) dX12_goOnAnd_24 rfl (by decide) (by decide) rfl (tyX12_ok 3 (by decide)) qf_X12_119 (s_aload_n dX12_goOnAnd_27 rfl (s_invB (w' := (g, d, ck, sk, xX12_goOnAnd, Q)) (ci := 12) (ck := 0) (sk := 0) (T := TX12) (N := 49) dX12_goOnAnd_28 m_X12_unit rfl (by decide) qm_X12_175 qi_X12_unit qe_X12_unit rfl (s_aload_n dX12_goOnAnd_31 rfl (s_bipush dX12_goOnAnd_32 rfl (s_iconst dX12_goOnAnd_34 (s_invB (w' := (g, d, ck, sk, xX12_goOnAnd, Q)) (ci := 12) (ck := 0) (sk := 0) (T := TX12) (N := 49) dX12_goOnAnd_35 m_X12_put rfl (by decide) qm_X12_148 qi_X12_put qe_X12_put rfl (s_goto (tgt := 0) dX12_goOnAnd_38 (by decide) (sk_id)))))))))))))))))))))
theorem dX12_goOnOr_0 : decode cX12_goOnOr 0 = .ok (.aload_n 0, 1) := by decide +kernel
theorem dX12_goOnOr_1 : decode cX12_goOnOr 1 = .ok (.getfield 126, 3) := by decide +kernel
theorem dX12_goOnOr_4 : decode cX12_goOnOr 4 = .ok (.iconst (-1), 1) := by decide +kernel
theorem dX12_goOnOr_5 : decode cX12_goOnOr 5 = .ok (.if_icmp .ne 40, 3) := by decide +kernel
theorem dX12_goOnOr_8 : decode cX12_goOnOr 8 = .ok (.aload_n 0, 1) := by decide +kernel
theorem dX12_goOnOr_9 : decode cX12_goOnOr 9 = .ok (.invokevirtual 138, 3) := by decide +kernel
theorem dX12_goOnOr_12 : decode cX12_goOnOr 12 = .ok (.bipush 124, 2) := by decide +kernel
theorem dX12_goOnOr_14 : decode cX12_goOnOr 14 = .ok (.if_icmp .ne 31, 3) := by decide +kernel
theorem dX12_goOnOr_17 : decode cX12_goOnOr 17 = .ok (.aload_n 0, 1) := by decide +kernel
theorem dX12_goOnOr_18 : decode cX12_goOnOr 18 = .ok (.dup, 1) := by decide +kernel
theorem dX12_goOnOr_19 : decode cX12_goOnOr 19 = .ok (.getfield 119, 3) := by decide +kernel
theorem dX12_goOnOr_22 : decode cX12_goOnOr 22 = .ok (.iconst 1, 1) := by decide +kernel
theorem dX12_goOnOr_23 : decode cX12_goOnOr 23 = .ok (.iadd, 1) := by decide +kernel
theorem dX12_goOnOr_24 : decode cX12_goOnOr 24 = .ok (.putfield 119, 3) := by decide +kernel
theorem dX12_goOnOr_27 : decode cX12_goOnOr 27 = .ok (.aload_n 0, 1) := by decide +kernel
theorem dX12_goOnOr_28 : decode cX12_goOnOr 28 = .ok (.invokevirtual 175, 3) := by decide +kernel
theorem dX12_goOnOr_31 : decode cX12_goOnOr 31 = .ok (.aload_n 0, 1) := by decide +kernel
theorem dX12_goOnOr_32 : decode cX12_goOnOr 32 = .ok (.invokevirtual 184, 3) := by decide +kernel
theorem dX12_goOnOr_35 : decode cX12_goOnOr 35 = .ok (.aload_n 0, 1) := by decide +kernel
theorem dX12_goOnOr_36 : decode cX12_goOnOr 36 = .ok (.bipush 11, 2) := by decide +kernel
theorem dX12_goOnOr_38 : decode cX12_goOnOr 38 = .ok (.iconst 0, 1) := by decide +kernel
theorem dX12_goOnOr_39 : decode cX12_goOnOr 39 = .ok (.invokevirtual 148, 3) := by decide +kernel
theorem dX12_goOnOr_42 : decode cX12_goOnOr 42 = .ok (.goto (-42), 3) := by decide +kernel
theorem dX12_goOnOr_45 : decode cX12_goOnOr 45 = .ok (.return_, 1) := by decide +kernel
set_option maxRecDepth 20000 in
def kX12_goOnOr_0 (g : sk_G) (d ck sk : Nat) (Q : sk_P) : sk_K := o_aload 0 (o_getf 12 4 (o_i (-1) (o_icne (o_ret (g, d, ck, sk, xX12_goOnOr, Q)) (o_aload 0 (o_invB (g, d, ck, sk, xX12_goOnOr, Q) xX12_look 0 12 0 0 (o_i (124) (o_icne (o_ret (g, d, ck, sk, xX12_goOnOr, Q)) (o_aload 0 (o_dup (o_getf 12 3 (o_i (1) (o_iadd (o_puti 12 3 (o_aload 0 (o_invB (g, d, ck, sk, xX12_goOnOr, Q) xX12_unit 0 12 0 0 (o_aload 0 (o_invB (g, d, ck, sk, xX12_goOnOr, Q) xX12_goOnAnd 0 12 0 0 (o_aload 0 (o_i (11) (o_i (0) (o_invB (g, d, ck, sk, xX12_goOnOr, Q) xX12_put 2 12 0 0 (sk_B (g, d, ck, sk, xX12_goOnOr, Q) 0))))))))))))))))))))))
set_option maxRecDepth 20000 in
theorem tX12_goOnOr_0 {g : sk_G} {d ck sk : Nat} {Q : sk_P} : sk_S (g, d, ck, sk, xX12_goOnOr, Q) 0 (kX12_goOnOr_0 g d ck sk Q) := s_aload_n dX12_goOnOr_0 rfl (s_getf (ci := 12) (j := 4) (C := RX12) (T := TX12) (N := 49) dX12_goOnOr_1 rfl (by decide) (by decide) qf_X12_126 (s_iconst dX12_goOnOr_4 (s_icne (tgt := 45) dX12_goOnOr_5 (by decide) (s_ret dX12_goOnOr_45 rfl) (s_aload_n dX12_goOnOr_8 rfl (s_invB (w' := (g, d, ck, sk, xX12_goOnOr, Q)) (ci := 12) (ck := 0) (sk := 0) (T := TX12) (N := 49) dX12_goOnOr_9 m_X12_look rfl (by decide) qm_X12_138 qi_X12_look qe_X12_look rfl (s_bipush dX12_goOnOr_12 rfl (s_icne (tgt := 45) dX12_goOnOr_14 (by decide) (s_ret dX12_goOnOr_45 rfl) (s_aload_n dX12_goOnOr_17 rfl (s_dup dX12_goOnOr_18 (s_getf (ci := 12) (j := 3) (C := RX12) (T := TX12) (N := 49) dX12_goOnOr_19 rfl (by decide) (by decide) qf_X12_119 (s_iconst dX12_goOnOr_22 (s_iadd dX12_goOnOr_23 (s_puti (ci := 12) (j := 3) (C := RX12) (T := TX12) (N := 49) dX12_goOnOr_24 rfl (by decide) (by decide) rfl (tyX12_ok 3 (by decide)) qf_X12_119 (s_aload_n dX12_goOnOr_27 rfl (s_invB (w' := (g, d, ck, sk, xX12_goOnOr, Q)) (ci := 12) (ck := 0) (sk := 0) (T := TX12) (N := 49) dX12_goOnOr_28 m_X12_unit rfl (by decide) qm_X12_175 qi_X12_unit qe_X12_unit rfl (s_aload_n dX12_goOnOr_31 rfl (s_invB (w' := (g, d, ck, sk, xX12_goOnOr, Q)) (ci := 12) (ck := 0) (sk := 0) (T := TX12) (N := 49) dX12_goOnOr_32 m_X12_goOnAnd rfl (by decide) qm_X12_184 qi_X12_goOnAnd qe_X12_goOnAnd rfl (s_aload_n dX12_goOnOr_35 rfl (s_bipush dX12_goOnOr_36 rfl (s_iconst dX12_goOnOr_38 (s_invB (w' := (g, d, ck, sk, xX12_goOnOr, Q)) (ci := 12) (ck := 0) (sk := 0) (T := TX12) (N := 49) dX12_goOnOr_39 m_X12_put rfl (by decide) qm_X12_148 qi_X12_put qe_X12_put rfl (s_goto (tgt := 0) dX12_goOnOr_42 (by decide) (sk_id)))))))))))))))))))))))
