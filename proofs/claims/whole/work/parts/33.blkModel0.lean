theorem dX12_init_0 : decode cX12_init 0 = .ok (.aload_n 0, 1) := by decide +kernel
theorem dX12_init_1 : decode cX12_init 1 = .ok (.invokespecial 3, 3) := by decide +kernel
theorem dX12_init_4 : decode cX12_init 4 = .ok (.aload_n 0, 1) := by decide +kernel
theorem dX12_init_5 : decode cX12_init 5 = .ok (.sipush 240, 3) := by decide +kernel
theorem dX12_init_8 : decode cX12_init 8 = .ok (.newarray .int, 2) := by decide +kernel
theorem dX12_init_10 : decode cX12_init 10 = .ok (.putfield 9, 3) := by decide +kernel
theorem dX12_init_13 : decode cX12_init 13 = .ok (.aload_n 0, 1) := by decide +kernel
theorem dX12_init_14 : decode cX12_init 14 = .ok (.sipush 2600, 3) := by decide +kernel
theorem dX12_init_17 : decode cX12_init 17 = .ok (.newarray .int, 2) := by decide +kernel
theorem dX12_init_19 : decode cX12_init 19 = .ok (.putfield 13, 3) := by decide +kernel
theorem dX12_init_22 : decode cX12_init 22 = .ok (.aload_n 0, 1) := by decide +kernel
theorem dX12_init_23 : decode cX12_init 23 = .ok (.sipush 2600, 3) := by decide +kernel
theorem dX12_init_26 : decode cX12_init 26 = .ok (.newarray .int, 2) := by decide +kernel
theorem dX12_init_28 : decode cX12_init 28 = .ok (.putfield 16, 3) := by decide +kernel
theorem dX12_init_31 : decode cX12_init 31 = .ok (.aload_n 0, 1) := by decide +kernel
theorem dX12_init_32 : decode cX12_init 32 = .ok (.iconst 5, 1) := by decide +kernel
theorem dX12_init_33 : decode cX12_init 33 = .ok (.newarray .int, 2) := by decide +kernel
theorem dX12_init_35 : decode cX12_init 35 = .ok (.putfield 19, 3) := by decide +kernel
theorem dX12_init_38 : decode cX12_init 38 = .ok (.aload_n 0, 1) := by decide +kernel
theorem dX12_init_39 : decode cX12_init 39 = .ok (.iconst 5, 1) := by decide +kernel
theorem dX12_init_40 : decode cX12_init 40 = .ok (.newarray .int, 2) := by decide +kernel
theorem dX12_init_42 : decode cX12_init 42 = .ok (.putfield 22, 3) := by decide +kernel
theorem dX12_init_45 : decode cX12_init 45 = .ok (.aload_n 0, 1) := by decide +kernel
theorem dX12_init_46 : decode cX12_init 46 = .ok (.sipush 700, 3) := by decide +kernel
theorem dX12_init_49 : decode cX12_init 49 = .ok (.newarray .int, 2) := by decide +kernel
theorem dX12_init_51 : decode cX12_init 51 = .ok (.putfield 25, 3) := by decide +kernel
theorem dX12_init_54 : decode cX12_init 54 = .ok (.aload_n 0, 1) := by decide +kernel
theorem dX12_init_55 : decode cX12_init 55 = .ok (.sipush 700, 3) := by decide +kernel
theorem dX12_init_58 : decode cX12_init 58 = .ok (.newarray .int, 2) := by decide +kernel
theorem dX12_init_60 : decode cX12_init 60 = .ok (.putfield 28, 3) := by decide +kernel
theorem dX12_init_63 : decode cX12_init 63 = .ok (.aload_n 0, 1) := by decide +kernel
theorem dX12_init_64 : decode cX12_init 64 = .ok (.sipush 700, 3) := by decide +kernel
theorem dX12_init_67 : decode cX12_init 67 = .ok (.newarray .int, 2) := by decide +kernel
theorem dX12_init_69 : decode cX12_init 69 = .ok (.putfield 31, 3) := by decide +kernel
theorem dX12_init_72 : decode cX12_init 72 = .ok (.aload_n 0, 1) := by decide +kernel
theorem dX12_init_73 : decode cX12_init 73 = .ok (.bipush 6, 2) := by decide +kernel
theorem dX12_init_75 : decode cX12_init 75 = .ok (.newarray .int, 2) := by decide +kernel
theorem dX12_init_77 : decode cX12_init 77 = .ok (.putfield 34, 3) := by decide +kernel
theorem dX12_init_80 : decode cX12_init 80 = .ok (.aload_n 0, 1) := by decide +kernel
theorem dX12_init_81 : decode cX12_init 81 = .ok (.bipush 80, 2) := by decide +kernel
theorem dX12_init_83 : decode cX12_init 83 = .ok (.newarray .int, 2) := by decide +kernel
theorem dX12_init_85 : decode cX12_init 85 = .ok (.putfield 37, 3) := by decide +kernel
theorem dX12_init_88 : decode cX12_init 88 = .ok (.aload_n 0, 1) := by decide +kernel
theorem dX12_init_89 : decode cX12_init 89 = .ok (.iconst 4, 1) := by decide +kernel
theorem dX12_init_90 : decode cX12_init 90 = .ok (.newarray .int, 2) := by decide +kernel
theorem dX12_init_92 : decode cX12_init 92 = .ok (.putfield 40, 3) := by decide +kernel
theorem dX12_init_95 : decode cX12_init 95 = .ok (.aload_n 0, 1) := by decide +kernel
theorem dX12_init_96 : decode cX12_init 96 = .ok (.bipush 8, 2) := by decide +kernel
theorem dX12_init_98 : decode cX12_init 98 = .ok (.newarray .int, 2) := by decide +kernel
theorem dX12_init_100 : decode cX12_init 100 = .ok (.putfield 43, 3) := by decide +kernel
theorem dX12_init_103 : decode cX12_init 103 = .ok (.aload_n 0, 1) := by decide +kernel
theorem dX12_init_104 : decode cX12_init 104 = .ok (.iconst 4, 1) := by decide +kernel
theorem dX12_init_105 : decode cX12_init 105 = .ok (.newarray .int, 2) := by decide +kernel
theorem dX12_init_107 : decode cX12_init 107 = .ok (.putfield 46, 3) := by decide +kernel
theorem dX12_init_110 : decode cX12_init 110 = .ok (.aload_n 0, 1) := by decide +kernel
theorem dX12_init_111 : decode cX12_init 111 = .ok (.bipush 8, 2) := by decide +kernel
theorem dX12_init_113 : decode cX12_init 113 = .ok (.newarray .int, 2) := by decide +kernel
theorem dX12_init_115 : decode cX12_init 115 = .ok (.putfield 49, 3) := by decide +kernel
theorem dX12_init_118 : decode cX12_init 118 = .ok (.aload_n 0, 1) := by decide +kernel
theorem dX12_init_119 : decode cX12_init 119 = .ok (.sipush 336, 3) := by decide +kernel
theorem dX12_init_122 : decode cX12_init 122 = .ok (.newarray .int, 2) := by decide +kernel
theorem dX12_init_124 : decode cX12_init 124 = .ok (.putfield 52, 3) := by decide +kernel
theorem dX12_init_127 : decode cX12_init 127 = .ok (.aload_n 0, 1) := by decide +kernel
theorem dX12_init_128 : decode cX12_init 128 = .ok (.bipush 7, 2) := by decide +kernel
theorem dX12_init_130 : decode cX12_init 130 = .ok (.newarray .int, 2) := by decide +kernel
theorem dX12_init_132 : decode cX12_init 132 = .ok (.putfield 55, 3) := by decide +kernel
theorem dX12_init_135 : decode cX12_init 135 = .ok (.aload_n 0, 1) := by decide +kernel
theorem dX12_init_136 : decode cX12_init 136 = .ok (.bipush 28, 2) := by decide +kernel
theorem dX12_init_138 : decode cX12_init 138 = .ok (.newarray .int, 2) := by decide +kernel
theorem dX12_init_140 : decode cX12_init 140 = .ok (.putfield 58, 3) := by decide +kernel
theorem dX12_init_143 : decode cX12_init 143 = .ok (.aload_n 0, 1) := by decide +kernel
theorem dX12_init_144 : decode cX12_init 144 = .ok (.sipush 943, 3) := by decide +kernel
theorem dX12_init_147 : decode cX12_init 147 = .ok (.newarray .int, 2) := by decide +kernel
theorem dX12_init_149 : decode cX12_init 149 = .ok (.putfield 61, 3) := by decide +kernel
theorem dX12_init_152 : decode cX12_init 152 = .ok (.aload_n 0, 1) := by decide +kernel
theorem dX12_init_153 : decode cX12_init 153 = .ok (.iconst 5, 1) := by decide +kernel
theorem dX12_init_154 : decode cX12_init 154 = .ok (.newarray .int, 2) := by decide +kernel
theorem dX12_init_156 : decode cX12_init 156 = .ok (.putfield 64, 3) := by decide +kernel
theorem dX12_init_159 : decode cX12_init 159 = .ok (.aload_n 0, 1) := by decide +kernel
theorem dX12_init_160 : decode cX12_init 160 = .ok (.iconst (-1), 1) := by decide +kernel
theorem dX12_init_161 : decode cX12_init 161 = .ok (.putfield 67, 3) := by decide +kernel
theorem dX12_init_164 : decode cX12_init 164 = .ok (.aload_n 0, 1) := by decide +kernel
theorem dX12_init_165 : decode cX12_init 165 = .ok (.iconst 4, 1) := by decide +kernel
theorem dX12_init_166 : decode cX12_init 166 = .ok (.putfield 71, 3) := by decide +kernel
theorem dX12_init_169 : decode cX12_init 169 = .ok (.aload_n 0, 1) := by decide +kernel
theorem dX12_init_170 : decode cX12_init 170 = .ok (.ldc 74, 2) := by decide +kernel
theorem dX12_init_172 : decode cX12_init 172 = .ok (.newarray .int, 2) := by decide +kernel
theorem dX12_init_174 : decode cX12_init 174 = .ok (.putfield 75, 3) := by decide +kernel
theorem dX12_init_177 : decode cX12_init 177 = .ok (.aload_n 0, 1) := by decide +kernel
theorem dX12_init_178 : decode cX12_init 178 = .ok (.bipush 6, 2) := by decide +kernel
theorem dX12_init_180 : decode cX12_init 180 = .ok (.newarray .int, 2) := by decide +kernel
theorem dX12_init_182 : decode cX12_init 182 = .ok (.putfield 78, 3) := by decide +kernel
theorem dX12_init_185 : decode cX12_init 185 = .ok (.aload_n 0, 1) := by decide +kernel
theorem dX12_init_186 : decode cX12_init 186 = .ok (.sipush 762, 3) := by decide +kernel
theorem dX12_init_189 : decode cX12_init 189 = .ok (.newarray .int, 2) := by decide +kernel
theorem dX12_init_191 : decode cX12_init 191 = .ok (.putfield 81, 3) := by decide +kernel
theorem dX12_init_194 : decode cX12_init 194 = .ok (.aload_n 0, 1) := by decide +kernel
theorem dX12_init_195 : decode cX12_init 195 = .ok (.sipush 275, 3) := by decide +kernel
theorem dX12_init_198 : decode cX12_init 198 = .ok (.newarray .int, 2) := by decide +kernel
theorem dX12_init_200 : decode cX12_init 200 = .ok (.putfield 84, 3) := by decide +kernel
theorem dX12_init_203 : decode cX12_init 203 = .ok (.aload_n 0, 1) := by decide +kernel
theorem dX12_init_204 : decode cX12_init 204 = .ok (.bipush 17, 2) := by decide +kernel
theorem dX12_init_206 : decode cX12_init 206 = .ok (.newarray .int, 2) := by decide +kernel
theorem dX12_init_208 : decode cX12_init 208 = .ok (.putfield 87, 3) := by decide +kernel
theorem dX12_init_211 : decode cX12_init 211 = .ok (.aload_n 0, 1) := by decide +kernel
theorem dX12_init_212 : decode cX12_init 212 = .ok (.bipush 17, 2) := by decide +kernel
theorem dX12_init_214 : decode cX12_init 214 = .ok (.newarray .int, 2) := by decide +kernel
theorem dX12_init_216 : decode cX12_init 216 = .ok (.putfield 90, 3) := by decide +kernel
theorem dX12_init_219 : decode cX12_init 219 = .ok (.aload_n 0, 1) := by decide +kernel
theorem dX12_init_220 : decode cX12_init 220 = .ok (.bipush 10, 2) := by decide +kernel
theorem dX12_init_222 : decode cX12_init 222 = .ok (.newarray .int, 2) := by decide +kernel
theorem dX12_init_224 : decode cX12_init 224 = .ok (.putfield 93, 3) := by decide +kernel
theorem dX12_init_227 : decode cX12_init 227 = .ok (.aload_n 0, 1) := by decide +kernel
theorem dX12_init_228 : decode cX12_init 228 = .ok (.bipush 10, 2) := by decide +kernel
theorem dX12_init_230 : decode cX12_init 230 = .ok (.newarray .int, 2) := by decide +kernel
theorem dX12_init_232 : decode cX12_init 232 = .ok (.putfield 96, 3) := by decide +kernel
theorem dX12_init_235 : decode cX12_init 235 = .ok (.aload_n 0, 1) := by decide +kernel
theorem dX12_init_236 : decode cX12_init 236 = .ok (.bipush 10, 2) := by decide +kernel
theorem dX12_init_238 : decode cX12_init 238 = .ok (.newarray .boolean, 2) := by decide +kernel
theorem dX12_init_240 : decode cX12_init 240 = .ok (.putfield 99, 3) := by decide +kernel
theorem dX12_init_243 : decode cX12_init 243 = .ok (.aload_n 0, 1) := by decide +kernel
theorem dX12_init_244 : decode cX12_init 244 = .ok (.sipush 1080, 3) := by decide +kernel
theorem dX12_init_247 : decode cX12_init 247 = .ok (.newarray .int, 2) := by decide +kernel
theorem dX12_init_249 : decode cX12_init 249 = .ok (.putfield 103, 3) := by decide +kernel
theorem dX12_init_252 : decode cX12_init 252 = .ok (.aload_n 0, 1) := by decide +kernel
theorem dX12_init_253 : decode cX12_init 253 = .ok (.sipush 943, 3) := by decide +kernel
theorem dX12_init_256 : decode cX12_init 256 = .ok (.newarray .int, 2) := by decide +kernel
theorem dX12_init_258 : decode cX12_init 258 = .ok (.putfield 106, 3) := by decide +kernel
theorem dX12_init_261 : decode cX12_init 261 = .ok (.return_, 1) := by decide +kernel
set_option maxRecDepth 20000 in
def kX12_init_0 (g : sk_G) (d ck sk : Nat) (Q : sk_P) : sk_K := o_aload 0 (o_obj (g, d, ck, sk, xX12_init, Q) (o_aload 0 (o_i (240) (o_newa (g, d, ck, sk, xX12_init, Q) 20 240 (sk_I (fun _ => 0)) (o_puta 12 1 (o_aload 0 (o_i (2600) (o_newa (g, d, ck - 1, sk - 240, xX12_init, Q) 20 2600 (sk_I (fun _ => 0)) (o_puta 12 6 (o_aload 0 (o_i (2600) (o_newa (g, d, ck - 1 - 1, sk - 240 - 2600, xX12_init, Q) 20 2600 (sk_I (fun _ => 0)) (o_puta 12 7 (o_aload 0 (o_i (5) (o_newa (g, d, ck - 1 - 1 - 1, sk - 240 - 2600 - 2600, xX12_init, Q) 20 5 (sk_I (fun _ => 0)) (o_puta 12 8 (o_aload 0 (o_i (5) (o_newa (g, d, ck - 1 - 1 - 1 - 1, sk - 240 - 2600 - 2600 - 5, xX12_init, Q) 20 5 (sk_I (fun _ => 0)) (o_puta 12 9 (o_aload 0 (o_i (700) (o_newa (g, d, ck - 1 - 1 - 1 - 1 - 1, sk - 240 - 2600 - 2600 - 5 - 5, xX12_init, Q) 20 700 (sk_I (fun _ => 0)) (o_puta 12 10 (o_aload 0 (o_i (700) (o_newa (g, d, ck - 1 - 1 - 1 - 1 - 1 - 1, sk - 240 - 2600 - 2600 - 5 - 5 - 700, xX12_init, Q) 20 700 (sk_I (fun _ => 0)) (o_puta 12 11 (o_aload 0 (o_i (700) (o_newa (g, d, ck - 1 - 1 - 1 - 1 - 1 - 1 - 1, sk - 240 - 2600 - 2600 - 5 - 5 - 700 - 700, xX12_init, Q) 20 700 (sk_I (fun _ => 0)) (o_puta 12 12 (o_aload 0 (o_i (6) (o_newa (g, d, ck - 1 - 1 - 1 - 1 - 1 - 1 - 1 - 1, sk - 240 - 2600 - 2600 - 5 - 5 - 700 - 700 - 700, xX12_init, Q) 20 6 (sk_I (fun _ => 0)) (o_puta 12 15 (o_aload 0 (o_i (80) (o_newa (g, d, ck - 1 - 1 - 1 - 1 - 1 - 1 - 1 - 1 - 1, sk - 240 - 2600 - 2600 - 5 - 5 - 700 - 700 - 700 - 6, xX12_init, Q) 20 80 (sk_I (fun _ => 0)) (o_puta 12 16 (o_aload 0 (o_i (4) (o_newa (g, d, ck - 1 - 1 - 1 - 1 - 1 - 1 - 1 - 1 - 1 - 1, sk - 240 - 2600 - 2600 - 5 - 5 - 700 - 700 - 700 - 6 - 80, xX12_init, Q) 20 4 (sk_I (fun _ => 0)) (o_puta 12 17 (o_aload 0 (o_i (8) (o_newa (g, d, ck - 1 - 1 - 1 - 1 - 1 - 1 - 1 - 1 - 1 - 1 - 1, sk - 240 - 2600 - 2600 - 5 - 5 - 700 - 700 - 700 - 6 - 80 - 4, xX12_init, Q) 20 8 (sk_I (fun _ => 0)) (o_puta 12 18 (o_aload 0 (o_i (4) (o_newa (g, d, ck - 1 - 1 - 1 - 1 - 1 - 1 - 1 - 1 - 1 - 1 - 1 - 1, sk - 240 - 2600 - 2600 - 5 - 5 - 700 - 700 - 700 - 6 - 80 - 4 - 8, xX12_init, Q) 20 4 (sk_I (fun _ => 0)) (o_puta 12 20 (o_aload 0 (o_i (8) (o_newa (g, d, ck - 1 - 1 - 1 - 1 - 1 - 1 - 1 - 1 - 1 - 1 - 1 - 1 - 1, sk - 240 - 2600 - 2600 - 5 - 5 - 700 - 700 - 700 - 6 - 80 - 4 - 8 - 4, xX12_init, Q) 20 8 (sk_I (fun _ => 0)) (o_puta 12 21 (o_aload 0 (o_i (336) (o_newa (g, d, ck - 1 - 1 - 1 - 1 - 1 - 1 - 1 - 1 - 1 - 1 - 1 - 1 - 1 - 1, sk - 240 - 2600 - 2600 - 5 - 5 - 700 - 700 - 700 - 6 - 80 - 4 - 8 - 4 - 8, xX12_init, Q) 20 336 (sk_I (fun _ => 0)) (o_puta 12 24 (o_aload 0 (o_i (7) (o_newa (g, d, ck - 1 - 1 - 1 - 1 - 1 - 1 - 1 - 1 - 1 - 1 - 1 - 1 - 1 - 1 - 1, sk - 240 - 2600 - 2600 - 5 - 5 - 700 - 700 - 700 - 6 - 80 - 4 - 8 - 4 - 8 - 336, xX12_init, Q) 20 7 (sk_I (fun _ => 0)) (o_puta 12 25 (o_aload 0 (o_i (28) (o_newa (g, d, ck - 1 - 1 - 1 - 1 - 1 - 1 - 1 - 1 - 1 - 1 - 1 - 1 - 1 - 1 - 1 - 1, sk - 240 - 2600 - 2600 - 5 - 5 - 700 - 700 - 700 - 6 - 80 - 4 - 8 - 4 - 8 - 336 - 7, xX12_init, Q) 20 28 (sk_I (fun _ => 0)) (o_puta 12 26 (o_aload 0 (o_i (943) (o_newa (g, d, ck - 1 - 1 - 1 - 1 - 1 - 1 - 1 - 1 - 1 - 1 - 1 - 1 - 1 - 1 - 1 - 1 - 1, sk - 240 - 2600 - 2600 - 5 - 5 - 700 - 700 - 700 - 6 - 80 - 4 - 8 - 4 - 8 - 336 - 7 - 28, xX12_init, Q) 20 943 (sk_I (fun _ => 0)) (o_puta 12 28 (o_aload 0 (o_i (5) (o_newa (g, d, ck - 1 - 1 - 1 - 1 - 1 - 1 - 1 - 1 - 1 - 1 - 1 - 1 - 1 - 1 - 1 - 1 - 1 - 1, sk - 240 - 2600 - 2600 - 5 - 5 - 700 - 700 - 700 - 6 - 80 - 4 - 8 - 4 - 8 - 336 - 7 - 28 - 943, xX12_init, Q) 20 5 (sk_I (fun _ => 0)) (o_puta 12 29 (o_aload 0 (o_i (-1) (o_puti 12 30 (o_aload 0 (o_i (4) (o_puti 12 31 (o_aload 0 (o_i (37720) (o_newa (g, d, ck - 1 - 1 - 1 - 1 - 1 - 1 - 1 - 1 - 1 - 1 - 1 - 1 - 1 - 1 - 1 - 1 - 1 - 1 - 1, sk - 240 - 2600 - 2600 - 5 - 5 - 700 - 700 - 700 - 6 - 80 - 4 - 8 - 4 - 8 - 336 - 7 - 28 - 943 - 5, xX12_init, Q) 20 37720 (sk_I (fun _ => 0)) (o_puta 12 32 (o_aload 0 (o_i (6) (o_newa (g, d, ck - 1 - 1 - 1 - 1 - 1 - 1 - 1 - 1 - 1 - 1 - 1 - 1 - 1 - 1 - 1 - 1 - 1 - 1 - 1 - 1, sk - 240 - 2600 - 2600 - 5 - 5 - 700 - 700 - 700 - 6 - 80 - 4 - 8 - 4 - 8 - 336 - 7 - 28 - 943 - 5 - 37720, xX12_init, Q) 20 6 (sk_I (fun _ => 0)) (o_puta 12 37 (o_aload 0 (o_i (762) (o_newa (g, d, ck - 1 - 1 - 1 - 1 - 1 - 1 - 1 - 1 - 1 - 1 - 1 - 1 - 1 - 1 - 1 - 1 - 1 - 1 - 1 - 1 - 1, sk - 240 - 2600 - 2600 - 5 - 5 - 700 - 700 - 700 - 6 - 80 - 4 - 8 - 4 - 8 - 336 - 7 - 28 - 943 - 5 - 37720 - 6, xX12_init, Q) 20 762 (sk_I (fun _ => 0)) (o_puta 12 38 (o_aload 0 (o_i (275) (o_newa (g, d, ck - 1 - 1 - 1 - 1 - 1 - 1 - 1 - 1 - 1 - 1 - 1 - 1 - 1 - 1 - 1 - 1 - 1 - 1 - 1 - 1 - 1 - 1, sk - 240 - 2600 - 2600 - 5 - 5 - 700 - 700 - 700 - 6 - 80 - 4 - 8 - 4 - 8 - 336 - 7 - 28 - 943 - 5 - 37720 - 6 - 762, xX12_init, Q) 20 275 (sk_I (fun _ => 0)) (o_puta 12 39 (o_aload 0 (o_i (17) (o_newa (g, d, ck - 1 - 1 - 1 - 1 - 1 - 1 - 1 - 1 - 1 - 1 - 1 - 1 - 1 - 1 - 1 - 1 - 1 - 1 - 1 - 1 - 1 - 1 - 1, sk - 240 - 2600 - 2600 - 5 - 5 - 700 - 700 - 700 - 6 - 80 - 4 - 8 - 4 - 8 - 336 - 7 - 28 - 943 - 5 - 37720 - 6 - 762 - 275, xX12_init, Q) 20 17 (sk_I (fun _ => 0)) (o_puta 12 40 (o_aload 0 (o_i (17) (o_newa (g, d, ck - 1 - 1 - 1 - 1 - 1 - 1 - 1 - 1 - 1 - 1 - 1 - 1 - 1 - 1 - 1 - 1 - 1 - 1 - 1 - 1 - 1 - 1 - 1 - 1, sk - 240 - 2600 - 2600 - 5 - 5 - 700 - 700 - 700 - 6 - 80 - 4 - 8 - 4 - 8 - 336 - 7 - 28 - 943 - 5 - 37720 - 6 - 762 - 275 - 17, xX12_init, Q) 20 17 (sk_I (fun _ => 0)) (o_puta 12 41 (o_aload 0 (o_i (10) (o_newa (g, d, ck - 1 - 1 - 1 - 1 - 1 - 1 - 1 - 1 - 1 - 1 - 1 - 1 - 1 - 1 - 1 - 1 - 1 - 1 - 1 - 1 - 1 - 1 - 1 - 1 - 1, sk - 240 - 2600 - 2600 - 5 - 5 - 700 - 700 - 700 - 6 - 80 - 4 - 8 - 4 - 8 - 336 - 7 - 28 - 943 - 5 - 37720 - 6 - 762 - 275 - 17 - 17, xX12_init, Q) 20 10 (sk_I (fun _ => 0)) (o_puta 12 42 (o_aload 0 (o_i (10) (o_newa (g, d, ck - 1 - 1 - 1 - 1 - 1 - 1 - 1 - 1 - 1 - 1 - 1 - 1 - 1 - 1 - 1 - 1 - 1 - 1 - 1 - 1 - 1 - 1 - 1 - 1 - 1 - 1, sk - 240 - 2600 - 2600 - 5 - 5 - 700 - 700 - 700 - 6 - 80 - 4 - 8 - 4 - 8 - 336 - 7 - 28 - 943 - 5 - 37720 - 6 - 762 - 275 - 17 - 17 - 10, xX12_init, Q) 20 10 (sk_I (fun _ => 0)) (o_puta 12 43 (o_aload 0 (o_i (10) (o_newa (g, d, ck - 1 - 1 - 1 - 1 - 1 - 1 - 1 - 1 - 1 - 1 - 1 - 1 - 1 - 1 - 1 - 1 - 1 - 1 - 1 - 1 - 1 - 1 - 1 - 1 - 1 - 1 - 1, sk - 240 - 2600 - 2600 - 5 - 5 - 700 - 700 - 700 - 6 - 80 - 4 - 8 - 4 - 8 - 336 - 7 - 28 - 943 - 5 - 37720 - 6 - 762 - 275 - 17 - 17 - 10 - 10, xX12_init, Q) 21 10 (sk_I (fun _ => 0)) (o_puta 12 44 (o_aload 0 (o_i (1080) (o_newa (g, d, ck - 1 - 1 - 1 - 1 - 1 - 1 - 1 - 1 - 1 - 1 - 1 - 1 - 1 - 1 - 1 - 1 - 1 - 1 - 1 - 1 - 1 - 1 - 1 - 1 - 1 - 1 - 1 - 1, sk - 240 - 2600 - 2600 - 5 - 5 - 700 - 700 - 700 - 6 - 80 - 4 - 8 - 4 - 8 - 336 - 7 - 28 - 943 - 5 - 37720 - 6 - 762 - 275 - 17 - 17 - 10 - 10 - 10, xX12_init, Q) 20 1080 (sk_I (fun _ => 0)) (o_puta 12 46 (o_aload 0 (o_i (943) (o_newa (g, d, ck - 1 - 1 - 1 - 1 - 1 - 1 - 1 - 1 - 1 - 1 - 1 - 1 - 1 - 1 - 1 - 1 - 1 - 1 - 1 - 1 - 1 - 1 - 1 - 1 - 1 - 1 - 1 - 1 - 1, sk - 240 - 2600 - 2600 - 5 - 5 - 700 - 700 - 700 - 6 - 80 - 4 - 8 - 4 - 8 - 336 - 7 - 28 - 943 - 5 - 37720 - 6 - 762 - 275 - 17 - 17 - 10 - 10 - 10 - 1080, xX12_init, Q) 20 943 (sk_I (fun _ => 0)) (o_puta 12 47 (o_ret (g, d, ck - 1 - 1 - 1 - 1 - 1 - 1 - 1 - 1 - 1 - 1 - 1 - 1 - 1 - 1 - 1 - 1 - 1 - 1 - 1 - 1 - 1 - 1 - 1 - 1 - 1 - 1 - 1 - 1 - 1 - 1, sk - 240 - 2600 - 2600 - 5 - 5 - 700 - 700 - 700 - 6 - 80 - 4 - 8 - 4 - 8 - 336 - 7 - 28 - 943 - 5 - 37720 - 6 - 762 - 275 - 17 - 17 - 10 - 10 - 10 - 1080 - 943, xX12_init, Q)))))))))))))))))))))))))))))))))))))))))))))))))))))))))))))))))))))))))))))))))))))))))))))))))))))))))))))))))))))))))))))))))
set_option maxRecDepth 20000 in
theorem tX12_init_0 {g : sk_G} {d ck sk : Nat} {Q : sk_P} : sk_S (g, d, ck, sk, xX12_init, Q) 0 (kX12_init_0 g d ck sk Q) := s_aload_n dX12_init_0 rfl (s_obj dX12_init_1 qm_X12_3 qi_obj qc_obj (s_aload_n dX12_init_4 rfl (s_sipush dX12_init_5 rfl (s_newI (w' := (g, d, ck - 1, sk - 240, xX12_init, Q)) (N := 240) dX12_init_8 (by decide) qr_int rfl (s_putaF (ci := 12) (j := 1) (C := RX12) (T := TX12) (N := 49) dX12_init_10 rfl (by decide) (by decide) rfl rfl rfl (Or.inr ⟨_, rfl⟩) (tyX12_ok 1 (by decide)) qf_X12_9 (s_aload_n dX12_init_13 rfl (s_sipush dX12_init_14 rfl (s_newI (w' := (g, d, ck - 1 - 1, sk - 240 - 2600, xX12_init, Q)) (N := 2600) dX12_init_17 (by decide) qr_int rfl (s_putaF (ci := 12) (j := 6) (C := RX12) (T := TX12) (N := 49) dX12_init_19 rfl (by decide) (by decide) rfl rfl rfl (Or.inr ⟨_, rfl⟩) (tyX12_ok 6 (by decide)) qf_X12_13 (s_aload_n dX12_init_22 rfl (s_sipush dX12_init_23 rfl (s_newI (w' := (g, d, ck - 1 - 1 - 1, sk - 240 - 2600 - 2600, xX12_init, Q)) (N := 2600) dX12_init_26 (by decide) qr_int rfl (s_putaF (ci := 12) (j := 7) (C := RX12) (T := TX12) (N := 49) dX12_init_28 rfl (by decide) (by decide) rfl rfl rfl (Or.inr ⟨_, rfl⟩) (tyX12_ok 7 (by decide)) qf_X12_16 (s_aload_n dX12_init_31 rfl (s_iconst dX12_init_32 (s_newI (w' := (g, d, ck - 1 - 1 - 1 - 1, sk - 240 - 2600 - 2600 - 5, xX12_init, Q)) (N := 5) dX12_init_33 (by decide) qr_int rfl (s_putaF (ci := 12) (j := 8) (C := RX12) (T := TX12) (N := 49) dX12_init_35 rfl (by decide) (by decide) rfl rfl rfl (Or.inr ⟨_, rfl⟩) (tyX12_ok 8 (by decide)) qf_X12_19 (s_aload_n dX12_init_38 rfl (s_iconst dX12_init_39 (s_newI (w' := (g, d, ck - 1 - 1 - 1 - 1 - 1, sk - 240 - 2600 - 2600 - 5 - 5, xX12_init, Q)) (N := 5) dX12_init_40 (by decide) qr_int rfl (s_putaF (ci := 12) (j := 9) (C := RX12) (T := TX12) (N := 49) dX12_init_42 rfl (by decide) (by decide) rfl rfl rfl (Or.inr ⟨_, rfl⟩) (tyX12_ok 9 (by decide)) qf_X12_22 (s_aload_n dX12_init_45 rfl (s_sipush dX12_init_46 rfl (s_newI (w' := (g, d, ck - 1 - 1 - 1 - 1 - 1 - 1, sk - 240 - 2600 - 2600 - 5 - 5 - 700, xX12_init, Q)) (N := 700) dX12_init_49 (by decide) qr_int rfl (s_putaF (ci := 12) (j := 10) (C := RX12) (T := TX12) (N := 49) dX12_init_51 rfl (by decide) (by decide) rfl rfl rfl (Or.inr ⟨_, rfl⟩) (tyX12_ok 10 (by decide)) qf_X12_25 (s_aload_n dX12_init_54 rfl (s_sipush dX12_init_55 rfl (s_newI (w' := (g, d, ck - 1 - 1 - 1 - 1 - 1 - 1 - 1, sk - 240 - 2600 - 2600 - 5 - 5 - 700 - 700, xX12_init, Q)) (N := 700) dX12_init_58 (by decide) qr_int rfl (s_putaF (ci := 12) (j := 11) (C := RX12) (T := TX12) (N := 49) dX12_init_60 rfl (by decide) (by decide) rfl rfl rfl (Or.inr ⟨_, rfl⟩) (tyX12_ok 11 (by decide)) qf_X12_28 (s_aload_n dX12_init_63 rfl (s_sipush dX12_init_64 rfl (s_newI (w' := (g, d, ck - 1 - 1 - 1 - 1 - 1 - 1 - 1 - 1, sk - 240 - 2600 - 2600 - 5 - 5 - 700 - 700 - 700, xX12_init, Q)) (N := 700) dX12_init_67 (by decide) qr_int rfl (s_putaF (ci := 12) (j := 12) (C := RX12) (T := TX12) (N := 49) dX12_init_69 rfl (by decide) (by decide) rfl rfl rfl (Or.inr ⟨_, rfl⟩) (tyX12_ok 12 (by decide)) qf_X12_31 (s_aload_n dX12_init_72 rfl (s_bipush dX12_init_73 rfl (s_newI (w' := (g, d, ck - 1 - 1 - 1 - 1 - 1 - 1 - 1 - 1 - 1, sk - 240 - 2600 - 2600 - 5 - 5 - 700 - 700 - 700 - 6, xX12_init, Q)) (N := 6) dX12_init_75 (by decide) qr_int rfl (s_putaF (ci := 12) (j := 15) (C := RX12) (T := TX12) (N := 49) dX12_init_77 rfl (by decide) (by decide) rfl rfl rfl (Or.inr ⟨_, rfl⟩) (tyX12_ok 15 (by decide)) qf_X12_34 (s_aload_n dX12_init_80 rfl (s_bipush dX12_init_81 rfl (s_newI (w' := (g, d, ck - 1 - 1 - 1 - 1 - 1 - 1 - 1 - 1 - 1 - 1, sk - 240 - 2600 - 2600 - 5 - 5 - 700 - 700 - 700 - 6 - 80, xX12_init, Q)) (N := 80) dX12_init_83 (by decide) qr_int rfl (s_putaF (ci := 12) (j := 16) (C := RX12) (T := TX12) (N := 49) dX12_init_85 rfl (by decide) (by decide) rfl rfl rfl (Or.inr ⟨_, rfl⟩) (tyX12_ok 16 (by decide)) qf_X12_37 (s_aload_n dX12_init_88 rfl (s_iconst dX12_init_89 (s_newI (w' := (g, d, ck - 1 - 1 - 1 - 1 - 1 - 1 - 1 - 1 - 1 - 1 - 1, sk - 240 - 2600 - 2600 - 5 - 5 - 700 - 700 - 700 - 6 - 80 - 4, xX12_init, Q)) (N := 4) dX12_init_90 (by decide) qr_int rfl (s_putaF (ci := 12) (j := 17) (C := RX12) (T := TX12) (N := 49) dX12_init_92 rfl (by decide) (by decide) rfl rfl rfl (Or.inr ⟨_, rfl⟩) (tyX12_ok 17 (by decide)) qf_X12_40 (s_aload_n dX12_init_95 rfl (s_bipush dX12_init_96 rfl (s_newI (w' := (g, d, ck - 1 - 1 - 1 - 1 - 1 - 1 - 1 - 1 - 1 - 1 - 1 - 1, sk - 240 - 2600 - 2600 - 5 - 5 - 700 - 700 - 700 - 6 - 80 - 4 - 8, xX12_init, Q)) (N := 8) dX12_init_98 (by decide) qr_int rfl (s_putaF (ci := 12) (j := 18) (C := RX12) (T := TX12) (N := 49) dX12_init_100 rfl (by decide) (by decide) rfl rfl rfl (Or.inr ⟨_, rfl⟩) (tyX12_ok 18 (by decide)) qf_X12_43 (s_aload_n dX12_init_103 rfl (s_iconst dX12_init_104 (s_newI (w' := (g, d, ck - 1 - 1 - 1 - 1 - 1 - 1 - 1 - 1 - 1 - 1 - 1 - 1 - 1, sk - 240 - 2600 - 2600 - 5 - 5 - 700 - 700 - 700 - 6 - 80 - 4 - 8 - 4, xX12_init, Q)) (N := 4) dX12_init_105 (by decide) qr_int rfl (s_putaF (ci := 12) (j := 20) (C := RX12) (T := TX12) (N := 49) dX12_init_107 rfl (by decide) (by decide) rfl rfl rfl (Or.inr ⟨_, rfl⟩) (tyX12_ok 20 (by decide)) qf_X12_46 (s_aload_n dX12_init_110 rfl (s_bipush dX12_init_111 rfl (s_newI (w' := (g, d, ck - 1 - 1 - 1 - 1 - 1 - 1 - 1 - 1 - 1 - 1 - 1 - 1 - 1 - 1, sk - 240 - 2600 - 2600 - 5 - 5 - 700 - 700 - 700 - 6 - 80 - 4 - 8 - 4 - 8, xX12_init, Q)) (N := 8) dX12_init_113 (by decide) qr_int rfl (s_putaF (ci := 12) (j := 21) (C := RX12) (T := TX12) (N := 49) dX12_init_115 rfl (by decide) (by decide) rfl rfl rfl (Or.inr ⟨_, rfl⟩) (tyX12_ok 21 (by decide)) qf_X12_49 (s_aload_n dX12_init_118 rfl (s_sipush dX12_init_119 rfl (s_newI (w' := (g, d, ck - 1 - 1 - 1 - 1 - 1 - 1 - 1 - 1 - 1 - 1 - 1 - 1 - 1 - 1 - 1, sk - 240 - 2600 - 2600 - 5 - 5 - 700 - 700 - 700 - 6 - 80 - 4 - 8 - 4 - 8 - 336, xX12_init, Q)) (N := 336) dX12_init_122 (by decide) qr_int rfl (s_putaF (ci := 12) (j := 24) (C := RX12) (T := TX12) (N := 49) dX12_init_124 rfl (by decide) (by decide) rfl rfl rfl (Or.inr ⟨_, rfl⟩) (tyX12_ok 24 (by decide)) qf_X12_52 (s_aload_n dX12_init_127 rfl (s_bipush dX12_init_128 rfl (s_newI (w' := (g, d, ck - 1 - 1 - 1 - 1 - 1 - 1 - 1 - 1 - 1 - 1 - 1 - 1 - 1 - 1 - 1 - 1, sk - 240 - 2600 - 2600 - 5 - 5 - 700 - 700 - 700 - 6 - 80 - 4 - 8 - 4 - 8 - 336 - 7, xX12_init, Q)) (N := 7) dX12_init_130 (by decide) qr_int rfl (s_putaF (ci := 12) (j := 25) (C := RX12) (T := TX12) (N := 49) dX12_init_132 rfl (by decide) (by decide) rfl rfl rfl (Or.inr ⟨_, rfl⟩) (tyX12_ok 25 (by decide)) qf_X12_55 (s_aload_n dX12_init_135 rfl (s_bipush dX12_init_136 rfl (s_newI (w' := (g, d, ck - 1 - 1 - 1 - 1 - 1 - 1 - 1 - 1 - 1 - 1 - 1 - 1 - 1 - 1 - 1 - 1 - 1, sk - 240 - 2600 - 2600 - 5 - 5 - 700 - 700 - 700 - 6 - 80 - 4 - 8 - 4 - 8 - 336 - 7 - 28, xX12_init, Q)) (N := 28) dX12_init_138 (by decide) qr_int rfl (s_putaF (ci := 12) (j := 26) (C := RX12) (T := TX12) (N := 49) dX12_init_140 rfl (by decide) (by decide) rfl rfl rfl (Or.inr ⟨_, rfl⟩) (tyX12_ok 26 (by decide)) qf_X12_58 (s_aload_n dX12_init_143 rfl (s_sipush dX12_init_144 rfl (s_newI (w' := (g, d, ck - 1 - 1 - 1 - 1 - 1 - 1 - 1 - 1 - 1 - 1 - 1 - 1 - 1 - 1 - 1 - 1 - 1 - 1, sk - 240 - 2600 - 2600 - 5 - 5 - 700 - 700 - 700 - 6 - 80 - 4 - 8 - 4 - 8 - 336 - 7 - 28 - 943, xX12_init, Q)) (N := 943) dX12_init_147 (by decide) qr_int rfl (s_putaF (ci := 12) (j := 28) (C := RX12) (T := TX12) (N := 49) dX12_init_149 rfl (by decide) (by decide) rfl rfl rfl (Or.inr ⟨_, rfl⟩) (tyX12_ok 28 (by decide)) qf_X12_61 (s_aload_n dX12_init_152 rfl (s_iconst dX12_init_153 (s_newI (w' := (g, d, ck - 1 - 1 - 1 - 1 - 1 - 1 - 1 - 1 - 1 - 1 - 1 - 1 - 1 - 1 - 1 - 1 - 1 - 1 - 1, sk - 240 - 2600 - 2600 - 5 - 5 - 700 - 700 - 700 - 6 - 80 - 4 - 8 - 4 - 8 - 336 - 7 - 28 - 943 - 5, xX12_init, Q)) (N := 5) dX12_init_154 (by decide) qr_int rfl (s_putaF (ci := 12) (j := 29) (C := RX12) (T := TX12) (N := 49) dX12_init_156 rfl (by decide) (by decide) rfl rfl rfl (Or.inr ⟨_, rfl⟩) (tyX12_ok 29 (by decide)) qf_X12_64 (s_aload_n dX12_init_159 rfl (s_iconst dX12_init_160 (s_puti (ci := 12) (j := 30) (C := RX12) (T := TX12) (N := 49) dX12_init_161 rfl (by decide) (by decide) rfl (tyX12_ok 30 (by decide)) qf_X12_67 (s_aload_n dX12_init_164 rfl (s_iconst dX12_init_165 (s_puti (ci := 12) (j := 31) (C := RX12) (T := TX12) (N := 49) dX12_init_166 rfl (by decide) (by decide) rfl (tyX12_ok 31 (by decide)) qf_X12_71 (s_aload_n dX12_init_169 rfl (s_ldc dX12_init_170 qk_X12_74 rfl (s_newI (w' := (g, d, ck - 1 - 1 - 1 - 1 - 1 - 1 - 1 - 1 - 1 - 1 - 1 - 1 - 1 - 1 - 1 - 1 - 1 - 1 - 1 - 1, sk - 240 - 2600 - 2600 - 5 - 5 - 700 - 700 - 700 - 6 - 80 - 4 - 8 - 4 - 8 - 336 - 7 - 28 - 943 - 5 - 37720, xX12_init, Q)) (N := 37720) dX12_init_172 (by decide) qr_int rfl (s_putaF (ci := 12) (j := 32) (C := RX12) (T := TX12) (N := 49) dX12_init_174 rfl (by decide) (by decide) rfl rfl rfl (Or.inr ⟨_, rfl⟩) (tyX12_ok 32 (by decide)) qf_X12_75 (s_aload_n dX12_init_177 rfl (s_bipush dX12_init_178 rfl (s_newI (w' := (g, d, ck - 1 - 1 - 1 - 1 - 1 - 1 - 1 - 1 - 1 - 1 - 1 - 1 - 1 - 1 - 1 - 1 - 1 - 1 - 1 - 1 - 1, sk - 240 - 2600 - 2600 - 5 - 5 - 700 - 700 - 700 - 6 - 80 - 4 - 8 - 4 - 8 - 336 - 7 - 28 - 943 - 5 - 37720 - 6, xX12_init, Q)) (N := 6) dX12_init_180 (by decide) qr_int rfl (s_putaF (ci := 12) (j := 37) (C := RX12) (T := TX12) (N := 49) dX12_init_182 rfl (by decide) (by decide) rfl rfl rfl (Or.inr ⟨_, rfl⟩) (tyX12_ok 37 (by decide)) qf_X12_78 (s_aload_n dX12_init_185 rfl (s_sipush dX12_init_186 rfl (s_newI (w' := (g, d, ck - 1 - 1 - 1 - 1 - 1 - 1 - 1 - 1 - 1 - 1 - 1 - 1 - 1 - 1 - 1 - 1 - 1 - 1 - 1 - 1 - 1 - 1, sk - 240 - 2600 - 2600 - 5 - 5 - 700 - 700 - 700 - 6 - 80 - 4 - 8 - 4 - 8 - 336 - 7 - 28 - 943 - 5 - 37720 - 6 - 762, xX12_init, Q)) (N := 762) dX12_init_189 (by decide) qr_int rfl (s_putaF (ci := 12) (j := 38) (C := RX12) (T := TX12) (N := 49) dX12_init_191 rfl (by decide) (by decide) rfl rfl rfl (Or.inr ⟨_, rfl⟩) (tyX12_ok 38 (by decide)) qf_X12_81 (s_aload_n dX12_init_194 rfl (s_sipush dX12_init_195 rfl (s_newI (w' := (g, d, ck - 1 - 1 - 1 - 1 - 1 - 1 - 1 - 1 - 1 - 1 - 1 - 1 - 1 - 1 - 1 - 1 - 1 - 1 - 1 - 1 - 1 - 1 - 1, sk - 240 - 2600 - 2600 - 5 - 5 - 700 - 700 - 700 - 6 - 80 - 4 - 8 - 4 - 8 - 336 - 7 - 28 - 943 - 5 - 37720 - 6 - 762 - 275, xX12_init, Q)) (N := 275) dX12_init_198 (by decide) qr_int rfl (s_putaF (ci := 12) (j := 39) (C := RX12) (T := TX12) (N := 49) dX12_init_200 rfl (by decide) (by decide) rfl rfl rfl (Or.inr ⟨_, rfl⟩) (tyX12_ok 39 (by decide)) qf_X12_84 (s_aload_n dX12_init_203 rfl (s_bipush dX12_init_204 rfl (s_newI (w' := (g, d, ck - 1 - 1 - 1 - 1 - 1 - 1 - 1 - 1 - 1 - 1 - 1 - 1 - 1 - 1 - 1 - 1 - 1 - 1 - 1 - 1 - 1 - 1 - 1 - 1, sk - 240 - 2600 - 2600 - 5 - 5 - 700 - 700 - 700 - 6 - 80 - 4 - 8 - 4 - 8 - 336 - 7 - 28 - 943 - 5 - 37720 - 6 - 762 - 275 - 17, xX12_init, Q)) (N := 17) dX12_init_206 (by decide) qr_int rfl (s_putaF (ci := 12) (j := 40) (C := RX12) (T := TX12) (N := 49) dX12_init_208 rfl (by decide) (by decide) rfl rfl rfl (Or.inr ⟨_, rfl⟩) (tyX12_ok 40 (by decide)) qf_X12_87 (s_aload_n dX12_init_211 rfl (s_bipush dX12_init_212 rfl (s_newI (w' := (g, d, ck - 1 - 1 - 1 - 1 - 1 - 1 - 1 - 1 - 1 - 1 - 1 - 1 - 1 - 1 - 1 - 1 - 1 - 1 - 1 - 1 - 1 - 1 - 1 - 1 - 1, sk - 240 - 2600 - 2600 - 5 - 5 - 700 - 700 - 700 - 6 - 80 - 4 - 8 - 4 - 8 - 336 - 7 - 28 - 943 - 5 - 37720 - 6 - 762 - 275 - 17 - 17, xX12_init, Q)) (N := 17) dX12_init_214 (by decide) qr_int rfl (s_putaF (ci := 12) (j := 41) (C := RX12) (T := TX12) (N := 49) dX12_init_216 rfl (by decide) (by decide) rfl rfl rfl (Or.inr ⟨_, rfl⟩) (tyX12_ok 41 (by decide)) qf_X12_90 (s_aload_n dX12_init_219 rfl (s_bipush dX12_init_220 rfl (s_newI (w' := (g, d, ck - 1 - 1 - 1 - 1 - 1 - 1 - 1 - 1 - 1 - 1 - 1 - 1 - 1 - 1 - 1 - 1 - 1 - 1 - 1 - 1 - 1 - 1 - 1 - 1 - 1 - 1, sk - 240 - 2600 - 2600 - 5 - 5 - 700 - 700 - 700 - 6 - 80 - 4 - 8 - 4 - 8 - 336 - 7 - 28 - 943 - 5 - 37720 - 6 - 762 - 275 - 17 - 17 - 10, xX12_init, Q)) (N := 10) dX12_init_222 (by decide) qr_int rfl (s_putaF (ci := 12) (j := 42) (C := RX12) (T := TX12) (N := 49) dX12_init_224 rfl (by decide) (by decide) rfl rfl rfl (Or.inr ⟨_, rfl⟩) (tyX12_ok 42 (by decide)) qf_X12_93 (s_aload_n dX12_init_227 rfl (s_bipush dX12_init_228 rfl (s_newI (w' := (g, d, ck - 1 - 1 - 1 - 1 - 1 - 1 - 1 - 1 - 1 - 1 - 1 - 1 - 1 - 1 - 1 - 1 - 1 - 1 - 1 - 1 - 1 - 1 - 1 - 1 - 1 - 1 - 1, sk - 240 - 2600 - 2600 - 5 - 5 - 700 - 700 - 700 - 6 - 80 - 4 - 8 - 4 - 8 - 336 - 7 - 28 - 943 - 5 - 37720 - 6 - 762 - 275 - 17 - 17 - 10 - 10, xX12_init, Q)) (N := 10) dX12_init_230 (by decide) qr_int rfl (s_putaF (ci := 12) (j := 43) (C := RX12) (T := TX12) (N := 49) dX12_init_232 rfl (by decide) (by decide) rfl rfl rfl (Or.inr ⟨_, rfl⟩) (tyX12_ok 43 (by decide)) qf_X12_96 (s_aload_n dX12_init_235 rfl (s_bipush dX12_init_236 rfl (s_newZ (w' := (g, d, ck - 1 - 1 - 1 - 1 - 1 - 1 - 1 - 1 - 1 - 1 - 1 - 1 - 1 - 1 - 1 - 1 - 1 - 1 - 1 - 1 - 1 - 1 - 1 - 1 - 1 - 1 - 1 - 1, sk - 240 - 2600 - 2600 - 5 - 5 - 700 - 700 - 700 - 6 - 80 - 4 - 8 - 4 - 8 - 336 - 7 - 28 - 943 - 5 - 37720 - 6 - 762 - 275 - 17 - 17 - 10 - 10 - 10, xX12_init, Q)) (N := 10) dX12_init_238 (by decide) qr_boolean rfl (s_putaF (ci := 12) (j := 44) (C := RX12) (T := TX12) (N := 49) dX12_init_240 rfl (by decide) (by decide) rfl rfl rfl (Or.inr ⟨_, rfl⟩) (tyX12_ok 44 (by decide)) qf_X12_99 (s_aload_n dX12_init_243 rfl (s_sipush dX12_init_244 rfl (s_newI (w' := (g, d, ck - 1 - 1 - 1 - 1 - 1 - 1 - 1 - 1 - 1 - 1 - 1 - 1 - 1 - 1 - 1 - 1 - 1 - 1 - 1 - 1 - 1 - 1 - 1 - 1 - 1 - 1 - 1 - 1 - 1, sk - 240 - 2600 - 2600 - 5 - 5 - 700 - 700 - 700 - 6 - 80 - 4 - 8 - 4 - 8 - 336 - 7 - 28 - 943 - 5 - 37720 - 6 - 762 - 275 - 17 - 17 - 10 - 10 - 10 - 1080, xX12_init, Q)) (N := 1080) dX12_init_247 (by decide) qr_int rfl (s_putaF (ci := 12) (j := 46) (C := RX12) (T := TX12) (N := 49) dX12_init_249 rfl (by decide) (by decide) rfl rfl rfl (Or.inr ⟨_, rfl⟩) (tyX12_ok 46 (by decide)) qf_X12_103 (s_aload_n dX12_init_252 rfl (s_sipush dX12_init_253 rfl (s_newI (w' := (g, d, ck - 1 - 1 - 1 - 1 - 1 - 1 - 1 - 1 - 1 - 1 - 1 - 1 - 1 - 1 - 1 - 1 - 1 - 1 - 1 - 1 - 1 - 1 - 1 - 1 - 1 - 1 - 1 - 1 - 1 - 1, sk - 240 - 2600 - 2600 - 5 - 5 - 700 - 700 - 700 - 6 - 80 - 4 - 8 - 4 - 8 - 336 - 7 - 28 - 943 - 5 - 37720 - 6 - 762 - 275 - 17 - 17 - 10 - 10 - 10 - 1080 - 943, xX12_init, Q)) (N := 943) dX12_init_256 (by decide) qr_int rfl (s_putaF (ci := 12) (j := 47) (C := RX12) (T := TX12) (N := 49) dX12_init_258 rfl (by decide) (by decide) rfl rfl rfl (Or.inr ⟨_, rfl⟩) (tyX12_ok 47 (by decide)) qf_X12_106 (s_ret dX12_init_261 rfl))))))))))))))))))))))))))))))))))))))))))))))))))))))))))))))))))))))))))))))))))))))))))))))))))))))))))))))))))))))))))))))))
theorem dX12_thrown_0 : decode cX12_thrown 0 = .ok (.aload_n 0, 1) := by decide +kernel
theorem dX12_thrown_1 : decode cX12_thrown 1 = .ok (.getfield 109, 3) := by decide +kernel
theorem dX12_thrown_4 : decode cX12_thrown 4 = .ok (.ireturn, 1) := by decide +kernel
def kX12_thrown_0 (g : sk_G) (d ck sk : Nat) (Q : sk_P) : sk_K := o_aload 0 (o_getf 12 0 (o_iret (g, d, ck, sk, xX12_thrown, Q)))
theorem tX12_thrown_0 {g : sk_G} {d ck sk : Nat} {Q : sk_P} : sk_S (g, d, ck, sk, xX12_thrown, Q) 0 (kX12_thrown_0 g d ck sk Q) := s_aload_n dX12_thrown_0 rfl (s_getf (ci := 12) (j := 0) (C := RX12) (T := TX12) (N := 49) dX12_thrown_1 rfl (by decide) (by decide) qf_X12_109 (s_iret dX12_thrown_4 rfl))
theorem dX12_feed_0 : decode cX12_feed 0 = .ok (.iconst 0, 1) := by decide +kernel
theorem dX12_feed_1 : decode cX12_feed 1 = .ok (.istore 6, 2) := by decide +kernel
theorem dX12_feed_3 : decode cX12_feed 3 = .ok (.iconst 0, 1) := by decide +kernel
theorem dX12_feed_4 : decode cX12_feed 4 = .ok (.istore 7, 2) := by decide +kernel
theorem dX12_feed_6 : decode cX12_feed 6 = .ok (.iload 7, 2) := by decide +kernel
theorem dX12_feed_8 : decode cX12_feed 8 = .ok (.bipush 20, 2) := by decide +kernel
theorem dX12_feed_10 : decode cX12_feed 10 = .ok (.if_icmp .ge 34, 3) := by decide +kernel
theorem dX12_feed_13 : decode cX12_feed 13 = .ok (.iload 6, 2) := by decide +kernel
theorem dX12_feed_15 : decode cX12_feed 15 = .ok (.iload_n 1, 1) := by decide +kernel
theorem dX12_feed_16 : decode cX12_feed 16 = .ok (.iload_n 2, 1) := by decide +kernel
theorem dX12_feed_17 : decode cX12_feed 17 = .ok (.iload_n 3, 1) := by decide +kernel
theorem dX12_feed_18 : decode cX12_feed 18 = .ok (.iload 4, 2) := by decide +kernel
theorem dX12_feed_20 : decode cX12_feed 20 = .ok (.iload 5, 2) := by decide +kernel
theorem dX12_feed_22 : decode cX12_feed 22 = .ok (.iload 7, 2) := by decide +kernel
theorem dX12_feed_24 : decode cX12_feed 24 = .ok (.invokestatic 112, 3) := by decide +kernel
theorem dX12_feed_27 : decode cX12_feed 27 = .ok (.ifCond .eq 7, 3) := by decide +kernel
theorem dX12_feed_30 : decode cX12_feed 30 = .ok (.iconst 1, 1) := by decide +kernel
theorem dX12_feed_31 : decode cX12_feed 31 = .ok (.goto 4, 3) := by decide +kernel
theorem dX12_feed_34 : decode cX12_feed 34 = .ok (.iconst 0, 1) := by decide +kernel
theorem dX12_feed_35 : decode cX12_feed 35 = .ok (.iadd, 1) := by decide +kernel
theorem dX12_feed_36 : decode cX12_feed 36 = .ok (.istore 6, 2) := by decide +kernel
theorem dX12_feed_38 : decode cX12_feed 38 = .ok (.iinc 7 1, 3) := by decide +kernel
theorem dX12_feed_41 : decode cX12_feed 41 = .ok (.goto (-35), 3) := by decide +kernel
theorem dX12_feed_44 : decode cX12_feed 44 = .ok (.aload_n 0, 1) := by decide +kernel
theorem dX12_feed_45 : decode cX12_feed 45 = .ok (.getfield 116, 3) := by decide +kernel
theorem dX12_feed_48 : decode cX12_feed 48 = .ok (.iload 6, 2) := by decide +kernel
theorem dX12_feed_50 : decode cX12_feed 50 = .ok (.iadd, 1) := by decide +kernel
theorem dX12_feed_51 : decode cX12_feed 51 = .ok (.sipush 240, 3) := by decide +kernel
theorem dX12_feed_54 : decode cX12_feed 54 = .ok (.if_icmp .le 5, 3) := by decide +kernel
theorem dX12_feed_57 : decode cX12_feed 57 = .ok (.iconst (-1), 1) := by decide +kernel
theorem dX12_feed_58 : decode cX12_feed 58 = .ok (.ireturn, 1) := by decide +kernel
theorem dX12_feed_59 : decode cX12_feed 59 = .ok (.iconst 0, 1) := by decide +kernel
theorem dX12_feed_60 : decode cX12_feed 60 = .ok (.istore 7, 2) := by decide +kernel
theorem dX12_feed_62 : decode cX12_feed 62 = .ok (.iload 7, 2) := by decide +kernel
theorem dX12_feed_64 : decode cX12_feed 64 = .ok (.bipush 20, 2) := by decide +kernel
theorem dX12_feed_66 : decode cX12_feed 66 = .ok (.if_icmp .ge 49, 3) := by decide +kernel
theorem dX12_feed_69 : decode cX12_feed 69 = .ok (.iload_n 1, 1) := by decide +kernel
theorem dX12_feed_70 : decode cX12_feed 70 = .ok (.iload_n 2, 1) := by decide +kernel
theorem dX12_feed_71 : decode cX12_feed 71 = .ok (.iload_n 3, 1) := by decide +kernel
theorem dX12_feed_72 : decode cX12_feed 72 = .ok (.iload 4, 2) := by decide +kernel
theorem dX12_feed_74 : decode cX12_feed 74 = .ok (.iload 5, 2) := by decide +kernel
theorem dX12_feed_76 : decode cX12_feed 76 = .ok (.iload 7, 2) := by decide +kernel
theorem dX12_feed_78 : decode cX12_feed 78 = .ok (.invokestatic 112, 3) := by decide +kernel
theorem dX12_feed_81 : decode cX12_feed 81 = .ok (.istore 8, 2) := by decide +kernel
theorem dX12_feed_83 : decode cX12_feed 83 = .ok (.iload 8, 2) := by decide +kernel
theorem dX12_feed_85 : decode cX12_feed 85 = .ok (.ifCond .eq 24, 3) := by decide +kernel
theorem dX12_feed_88 : decode cX12_feed 88 = .ok (.aload_n 0, 1) := by decide +kernel
theorem dX12_feed_89 : decode cX12_feed 89 = .ok (.getfield 9, 3) := by decide +kernel
theorem dX12_feed_92 : decode cX12_feed 92 = .ok (.aload_n 0, 1) := by decide +kernel
theorem dX12_feed_93 : decode cX12_feed 93 = .ok (.getfield 116, 3) := by decide +kernel
theorem dX12_feed_96 : decode cX12_feed 96 = .ok (.iload 8, 2) := by decide +kernel
theorem dX12_feed_98 : decode cX12_feed 98 = .ok (.iastore, 1) := by decide +kernel
theorem dX12_feed_99 : decode cX12_feed 99 = .ok (.aload_n 0, 1) := by decide +kernel
theorem dX12_feed_100 : decode cX12_feed 100 = .ok (.dup, 1) := by decide +kernel
theorem dX12_feed_101 : decode cX12_feed 101 = .ok (.getfield 116, 3) := by decide +kernel
theorem dX12_feed_104 : decode cX12_feed 104 = .ok (.iconst 1, 1) := by decide +kernel
theorem dX12_feed_105 : decode cX12_feed 105 = .ok (.iadd, 1) := by decide +kernel
theorem dX12_feed_106 : decode cX12_feed 106 = .ok (.putfield 116, 3) := by decide +kernel
theorem dX12_feed_109 : decode cX12_feed 109 = .ok (.iinc 7 1, 3) := by decide +kernel
theorem dX12_feed_112 : decode cX12_feed 112 = .ok (.goto (-50), 3) := by decide +kernel
theorem dX12_feed_115 : decode cX12_feed 115 = .ok (.aload_n 0, 1) := by decide +kernel
theorem dX12_feed_116 : decode cX12_feed 116 = .ok (.getfield 116, 3) := by decide +kernel
theorem dX12_feed_119 : decode cX12_feed 119 = .ok (.ireturn, 1) := by decide +kernel
def kX12_feed_0 (g : sk_G) (d ck sk : Nat) (Q : sk_P) : sk_K := o_i (0) (o_istore 6 (o_i (0) (o_istore 7 (sk_B (g, d, ck, sk, xX12_feed, Q) 6))))
theorem tX12_feed_0 {g : sk_G} {d ck sk : Nat} {Q : sk_P} : sk_S (g, d, ck, sk, xX12_feed, Q) 0 (kX12_feed_0 g d ck sk Q) := s_iconst dX12_feed_0 (s_istore dX12_feed_1 (by decide : 6 < 9) (s_iconst dX12_feed_3 (s_istore dX12_feed_4 (by decide : 7 < 9) (sk_id))))
set_option maxRecDepth 20000 in
def kX12_feed_6 (g : sk_G) (d ck sk : Nat) (Q : sk_P) : sk_K := o_iload 7 (o_i (20) (o_icge (o_aload 0 (o_getf 12 2 (o_iload 6 (o_iadd (o_i (240) (o_icle (o_i (0) (o_istore 7 (sk_B (g, d, ck, sk, xX12_feed, Q) 62))) (o_i (-1) (o_iret (g, d, ck, sk, xX12_feed, Q))))))))) (o_iload 6 (o_iload 1 (o_iload 2 (o_iload 3 (o_iload 4 (o_iload 5 (o_iload 7 (o_stcB (g, d, ck, sk, xX12_feed, Q) xX12_byteOf 6 0 0 (o_ifeq (o_i (0) (o_iadd (o_istore 6 (o_iinc 7 (1) (sk_B (g, d, ck, sk, xX12_feed, Q) 6))))) (o_i (1) (o_iadd (o_istore 6 (o_iinc 7 (1) (sk_B (g, d, ck, sk, xX12_feed, Q) 6))))))))))))))))
set_option maxRecDepth 20000 in
theorem tX12_feed_6 {g : sk_G} {d ck sk : Nat} {Q : sk_P} : sk_S (g, d, ck, sk, xX12_feed, Q) 6 (kX12_feed_6 g d ck sk Q) := s_iload dX12_feed_6 (s_bipush dX12_feed_8 rfl (s_icge (tgt := 44) dX12_feed_10 (by decide) (s_aload_n dX12_feed_44 rfl (s_getf (ci := 12) (j := 2) (C := RX12) (T := TX12) (N := 49) dX12_feed_45 rfl (by decide) (by decide) qf_X12_116 (s_iload dX12_feed_48 (s_iadd dX12_feed_50 (s_sipush dX12_feed_51 rfl (s_icle (tgt := 59) dX12_feed_54 (by decide) (s_iconst dX12_feed_59 (s_istore dX12_feed_60 (by decide : 7 < 9) (sk_id))) (s_iconst dX12_feed_57 (s_iret dX12_feed_58 rfl)))))))) (s_iload dX12_feed_13 (s_iload_n dX12_feed_15 rfl (s_iload_n dX12_feed_16 rfl (s_iload_n dX12_feed_17 rfl (s_iload dX12_feed_18 (s_iload dX12_feed_20 (s_iload dX12_feed_22 (s_stcB (w' := (g, d, ck, sk, xX12_feed, Q)) (ck := 0) (sk := 0) dX12_feed_24 m_X12_byteOf qm_X12_112 qs_X12_byteOf rfl (s_ifeq (tgt := 34) dX12_feed_27 (by decide) (s_iconst dX12_feed_34 (s_iadd dX12_feed_35 (s_istore dX12_feed_36 (by decide : 6 < 9) (s_iinc dX12_feed_38 (by decide : 7 < 9) (s_goto (tgt := 6) dX12_feed_41 (by decide) (sk_id)))))) (s_iconst dX12_feed_30 (s_goto (tgt := 35) dX12_feed_31 (by decide) (s_iadd dX12_feed_35 (s_istore dX12_feed_36 (by decide : 6 < 9) (s_iinc dX12_feed_38 (by decide : 7 < 9) (s_goto (tgt := 6) dX12_feed_41 (by decide) (sk_id))))))))))))))))))
set_option maxRecDepth 20000 in
def kX12_feed_62 (g : sk_G) (d ck sk : Nat) (Q : sk_P) : sk_K := o_iload 7 (o_i (20) (o_icge (o_aload 0 (o_getf 12 2 (o_iret (g, d, ck, sk, xX12_feed, Q)))) (o_iload 1 (o_iload 2 (o_iload 3 (o_iload 4 (o_iload 5 (o_iload 7 (o_stcB (g, d, ck, sk, xX12_feed, Q) xX12_byteOf 6 0 0 (o_istore 8 (o_iload 8 (o_ifeq (o_iinc 7 (1) (sk_B (g, d, ck, sk, xX12_feed, Q) 62)) (o_aload 0 (o_getf 12 1 (o_aload 0 (o_getf 12 2 (o_iload 8 (o_iastore (o_aload 0 (o_dup (o_getf 12 2 (o_i (1) (o_iadd (o_puti 12 2 (o_iinc 7 (1) (sk_B (g, d, ck, sk, xX12_feed, Q) 62))))))))))))))))))))))))))
set_option maxRecDepth 20000 in
theorem tX12_feed_62 {g : sk_G} {d ck sk : Nat} {Q : sk_P} : sk_S (g, d, ck, sk, xX12_feed, Q) 62 (kX12_feed_62 g d ck sk Q) := s_iload dX12_feed_62 (s_bipush dX12_feed_64 rfl (s_icge (tgt := 115) dX12_feed_66 (by decide) (s_aload_n dX12_feed_115 rfl (s_getf (ci := 12) (j := 2) (C := RX12) (T := TX12) (N := 49) dX12_feed_116 rfl (by decide) (by decide) qf_X12_116 (s_iret dX12_feed_119 rfl))) (s_iload_n dX12_feed_69 rfl (s_iload_n dX12_feed_70 rfl (s_iload_n dX12_feed_71 rfl (s_iload dX12_feed_72 (s_iload dX12_feed_74 (s_iload dX12_feed_76 (s_stcB (w' := (g, d, ck, sk, xX12_feed, Q)) (ck := 0) (sk := 0) dX12_feed_78 m_X12_byteOf qm_X12_112 qs_X12_byteOf rfl (s_istore dX12_feed_81 (by decide : 8 < 9) (s_iload dX12_feed_83 (s_ifeq (tgt := 109) dX12_feed_85 (by decide) (s_iinc dX12_feed_109 (by decide : 7 < 9) (s_goto (tgt := 62) dX12_feed_112 (by decide) (sk_id))) (s_aload_n dX12_feed_88 rfl (s_getf (ci := 12) (j := 1) (C := RX12) (T := TX12) (N := 49) dX12_feed_89 rfl (by decide) (by decide) qf_X12_9 (s_aload_n dX12_feed_92 rfl (s_getf (ci := 12) (j := 2) (C := RX12) (T := TX12) (N := 49) dX12_feed_93 rfl (by decide) (by decide) qf_X12_116 (s_iload dX12_feed_96 (s_iastore dX12_feed_98 (s_aload_n dX12_feed_99 rfl (s_dup dX12_feed_100 (s_getf (ci := 12) (j := 2) (C := RX12) (T := TX12) (N := 49) dX12_feed_101 rfl (by decide) (by decide) qf_X12_116 (s_iconst dX12_feed_104 (s_iadd dX12_feed_105 (s_puti (ci := 12) (j := 2) (C := RX12) (T := TX12) (N := 49) dX12_feed_106 rfl (by decide) (by decide) rfl (tyX12_ok 2 (by decide)) qf_X12_116 (s_iinc dX12_feed_109 (by decide : 7 < 9) (s_goto (tgt := 62) dX12_feed_112 (by decide) (sk_id)))))))))))))))))))))))))))
theorem dX12_byteOf_0 : decode cX12_byteOf 0 = .ok (.iload 5, 2) := by decide +kernel
theorem dX12_byteOf_2 : decode cX12_byteOf 2 = .ok (.iconst 4, 1) := by decide +kernel
theorem dX12_byteOf_3 : decode cX12_byteOf 3 = .ok (.if_icmp .ge 7, 3) := by decide +kernel
theorem dX12_byteOf_6 : decode cX12_byteOf 6 = .ok (.iload_n 0, 1) := by decide +kernel
theorem dX12_byteOf_7 : decode cX12_byteOf 7 = .ok (.goto 38, 3) := by decide +kernel
theorem dX12_byteOf_10 : decode cX12_byteOf 10 = .ok (.iload 5, 2) := by decide +kernel
theorem dX12_byteOf_12 : decode cX12_byteOf 12 = .ok (.bipush 8, 2) := by decide +kernel
theorem dX12_byteOf_14 : decode cX12_byteOf 14 = .ok (.if_icmp .ge 7, 3) := by decide +kernel
theorem dX12_byteOf_17 : decode cX12_byteOf 17 = .ok (.iload_n 1, 1) := by decide +kernel
theorem dX12_byteOf_18 : decode cX12_byteOf 18 = .ok (.goto 27, 3) := by decide +kernel
theorem dX12_byteOf_21 : decode cX12_byteOf 21 = .ok (.iload 5, 2) := by decide +kernel
theorem dX12_byteOf_23 : decode cX12_byteOf 23 = .ok (.bipush 12, 2) := by decide +kernel
theorem dX12_byteOf_25 : decode cX12_byteOf 25 = .ok (.if_icmp .ge 7, 3) := by decide +kernel
theorem dX12_byteOf_28 : decode cX12_byteOf 28 = .ok (.iload_n 2, 1) := by decide +kernel
theorem dX12_byteOf_29 : decode cX12_byteOf 29 = .ok (.goto 16, 3) := by decide +kernel
theorem dX12_byteOf_32 : decode cX12_byteOf 32 = .ok (.iload 5, 2) := by decide +kernel
theorem dX12_byteOf_34 : decode cX12_byteOf 34 = .ok (.bipush 16, 2) := by decide +kernel
theorem dX12_byteOf_36 : decode cX12_byteOf 36 = .ok (.if_icmp .ge 7, 3) := by decide +kernel
theorem dX12_byteOf_39 : decode cX12_byteOf 39 = .ok (.iload_n 3, 1) := by decide +kernel
theorem dX12_byteOf_40 : decode cX12_byteOf 40 = .ok (.goto 5, 3) := by decide +kernel
theorem dX12_byteOf_43 : decode cX12_byteOf 43 = .ok (.iload 4, 2) := by decide +kernel
theorem dX12_byteOf_45 : decode cX12_byteOf 45 = .ok (.istore 6, 2) := by decide +kernel
theorem dX12_byteOf_47 : decode cX12_byteOf 47 = .ok (.iload 6, 2) := by decide +kernel
theorem dX12_byteOf_49 : decode cX12_byteOf 49 = .ok (.bipush 24, 2) := by decide +kernel
theorem dX12_byteOf_51 : decode cX12_byteOf 51 = .ok (.bipush 8, 2) := by decide +kernel
theorem dX12_byteOf_53 : decode cX12_byteOf 53 = .ok (.iload 5, 2) := by decide +kernel
theorem dX12_byteOf_55 : decode cX12_byteOf 55 = .ok (.iconst 4, 1) := by decide +kernel
theorem dX12_byteOf_56 : decode cX12_byteOf 56 = .ok (.irem, 1) := by decide +kernel
theorem dX12_byteOf_57 : decode cX12_byteOf 57 = .ok (.imul, 1) := by decide +kernel
theorem dX12_byteOf_58 : decode cX12_byteOf 58 = .ok (.isub, 1) := by decide +kernel
theorem dX12_byteOf_59 : decode cX12_byteOf 59 = .ok (.ishr, 1) := by decide +kernel
theorem dX12_byteOf_60 : decode cX12_byteOf 60 = .ok (.sipush 255, 3) := by decide +kernel
theorem dX12_byteOf_63 : decode cX12_byteOf 63 = .ok (.iand, 1) := by decide +kernel
theorem dX12_byteOf_64 : decode cX12_byteOf 64 = .ok (.ireturn, 1) := by decide +kernel
set_option maxRecDepth 20000 in
def kX12_byteOf_0 (g : sk_G) (d ck sk : Nat) (Q : sk_P) : sk_K := o_iload 5 (o_i (4) (o_icge (o_iload 5 (o_i (8) (o_icge (o_iload 5 (o_i (12) (o_icge (o_iload 5 (o_i (16) (o_icge (o_iload 4 (sk_B (g, d, ck, sk, xX12_byteOf, Q) 45)) (o_iload 3 (sk_B (g, d, ck, sk, xX12_byteOf, Q) 45))))) (o_iload 2 (sk_B (g, d, ck, sk, xX12_byteOf, Q) 45))))) (o_iload 1 (sk_B (g, d, ck, sk, xX12_byteOf, Q) 45))))) (o_iload 0 (sk_B (g, d, ck, sk, xX12_byteOf, Q) 45))))
set_option maxRecDepth 20000 in
theorem tX12_byteOf_0 {g : sk_G} {d ck sk : Nat} {Q : sk_P} : sk_S (g, d, ck, sk, xX12_byteOf, Q) 0 (kX12_byteOf_0 g d ck sk Q) := s_iload dX12_byteOf_0 (s_iconst dX12_byteOf_2 (s_icge (tgt := 10) dX12_byteOf_3 (by decide) (s_iload dX12_byteOf_10 (s_bipush dX12_byteOf_12 rfl (s_icge (tgt := 21) dX12_byteOf_14 (by decide) (s_iload dX12_byteOf_21 (s_bipush dX12_byteOf_23 rfl (s_icge (tgt := 32) dX12_byteOf_25 (by decide) (s_iload dX12_byteOf_32 (s_bipush dX12_byteOf_34 rfl (s_icge (tgt := 43) dX12_byteOf_36 (by decide) (s_iload dX12_byteOf_43 (sk_id)) (s_iload_n dX12_byteOf_39 rfl (s_goto (tgt := 45) dX12_byteOf_40 (by decide) (sk_id)))))) (s_iload_n dX12_byteOf_28 rfl (s_goto (tgt := 45) dX12_byteOf_29 (by decide) (sk_id)))))) (s_iload_n dX12_byteOf_17 rfl (s_goto (tgt := 45) dX12_byteOf_18 (by decide) (sk_id)))))) (s_iload_n dX12_byteOf_6 rfl (s_goto (tgt := 45) dX12_byteOf_7 (by decide) (sk_id)))))
def kX12_byteOf_45 (g : sk_G) (d ck sk : Nat) (Q : sk_P) : sk_K := o_istore 6 (o_iload 6 (o_i (24) (o_i (8) (o_iload 5 (o_i (4) (o_irem (o_imul (o_isub (o_ishr (o_i (255) (o_iand (o_iret (g, d, ck, sk, xX12_byteOf, Q)))))))))))))
theorem tX12_byteOf_45 {g : sk_G} {d ck sk : Nat} {Q : sk_P} : sk_S (g, d, ck, sk, xX12_byteOf, Q) 45 (kX12_byteOf_45 g d ck sk Q) := s_istore dX12_byteOf_45 (by decide : 6 < 7) (s_iload dX12_byteOf_47 (s_bipush dX12_byteOf_49 rfl (s_bipush dX12_byteOf_51 rfl (s_iload dX12_byteOf_53 (s_iconst dX12_byteOf_55 (s_irem dX12_byteOf_56 (s_imul dX12_byteOf_57 (s_isub dX12_byteOf_58 (s_ishr dX12_byteOf_59 (s_sipush dX12_byteOf_60 rfl (s_iand dX12_byteOf_63 (s_iret dX12_byteOf_64 rfl))))))))))))
theorem dX12_end_0 : decode cX12_end 0 = .ok (.iload_n 1, 1) := by decide +kernel
theorem dX12_end_1 : decode cX12_end 1 = .ok (.ifCond .lt 11, 3) := by decide +kernel
theorem dX12_end_4 : decode cX12_end 4 = .ok (.iload_n 1, 1) := by decide +kernel
theorem dX12_end_5 : decode cX12_end 5 = .ok (.aload_n 0, 1) := by decide +kernel
theorem dX12_end_6 : decode cX12_end 6 = .ok (.getfield 116, 3) := by decide +kernel
theorem dX12_end_9 : decode cX12_end 9 = .ok (.if_icmp .le 5, 3) := by decide +kernel
theorem dX12_end_12 : decode cX12_end 12 = .ok (.iconst 0, 1) := by decide +kernel
theorem dX12_end_13 : decode cX12_end 13 = .ok (.ireturn, 1) := by decide +kernel
theorem dX12_end_14 : decode cX12_end 14 = .ok (.aload_n 0, 1) := by decide +kernel
theorem dX12_end_15 : decode cX12_end 15 = .ok (.iload_n 1, 1) := by decide +kernel
theorem dX12_end_16 : decode cX12_end 16 = .ok (.putfield 116, 3) := by decide +kernel
theorem dX12_end_19 : decode cX12_end 19 = .ok (.iconst 1, 1) := by decide +kernel
theorem dX12_end_20 : decode cX12_end 20 = .ok (.ireturn, 1) := by decide +kernel
def kX12_end_0 (g : sk_G) (d ck sk : Nat) (Q : sk_P) : sk_K := o_iload 1 (o_iflt (o_i (0) (o_zret (g, d, ck, sk, xX12_end, Q))) (o_iload 1 (o_aload 0 (o_getf 12 2 (o_icle (o_aload 0 (o_iload 1 (o_puti 12 2 (o_i (1) (o_zret (g, d, ck, sk, xX12_end, Q)))))) (o_i (0) (o_zret (g, d, ck, sk, xX12_end, Q))))))))
theorem tX12_end_0 {g : sk_G} {d ck sk : Nat} {Q : sk_P} : sk_S (g, d, ck, sk, xX12_end, Q) 0 (kX12_end_0 g d ck sk Q) := s_iload_n dX12_end_0 rfl (s_iflt (tgt := 12) dX12_end_1 (by decide) (s_iconst dX12_end_12 (s_zret dX12_end_13 rfl)) (s_iload_n dX12_end_4 rfl (s_aload_n dX12_end_5 rfl (s_getf (ci := 12) (j := 2) (C := RX12) (T := TX12) (N := 49) dX12_end_6 rfl (by decide) (by decide) qf_X12_116 (s_icle (tgt := 14) dX12_end_9 (by decide) (s_aload_n dX12_end_14 rfl (s_iload_n dX12_end_15 rfl (s_puti (ci := 12) (j := 2) (C := RX12) (T := TX12) (N := 49) dX12_end_16 rfl (by decide) (by decide) rfl (tyX12_ok 2 (by decide)) qf_X12_116 (s_iconst dX12_end_19 (s_zret dX12_end_20 rfl))))) (s_iconst dX12_end_12 (s_zret dX12_end_13 rfl)))))))
theorem dX12_fault_0 : decode cX12_fault 0 = .ok (.iload_n 1, 1) := by decide +kernel
theorem dX12_fault_1 : decode cX12_fault 1 = .ok (.ifCond .ne 10, 3) := by decide +kernel
theorem dX12_fault_4 : decode cX12_fault 4 = .ok (.aload_n 0, 1) := by decide +kernel
theorem dX12_fault_5 : decode cX12_fault 5 = .ok (.invokevirtual 261, 3) := by decide +kernel
theorem dX12_fault_8 : decode cX12_fault 8 = .ok (.goto 32, 3) := by decide +kernel
theorem dX12_fault_11 : decode cX12_fault 11 = .ok (.iload_n 1, 1) := by decide +kernel
theorem dX12_fault_12 : decode cX12_fault 12 = .ok (.iconst 1, 1) := by decide +kernel
theorem dX12_fault_13 : decode cX12_fault 13 = .ok (.if_icmp .ne 11, 3) := by decide +kernel
theorem dX12_fault_16 : decode cX12_fault 16 = .ok (.aload_n 0, 1) := by decide +kernel
theorem dX12_fault_17 : decode cX12_fault 17 = .ok (.iconst 4, 1) := by decide +kernel
theorem dX12_fault_18 : decode cX12_fault 18 = .ok (.invokevirtual 264, 3) := by decide +kernel
theorem dX12_fault_21 : decode cX12_fault 21 = .ok (.goto 19, 3) := by decide +kernel
theorem dX12_fault_24 : decode cX12_fault 24 = .ok (.iload_n 1, 1) := by decide +kernel
theorem dX12_fault_25 : decode cX12_fault 25 = .ok (.iconst 2, 1) := by decide +kernel
theorem dX12_fault_26 : decode cX12_fault 26 = .ok (.if_icmp .ne 12, 3) := by decide +kernel
theorem dX12_fault_29 : decode cX12_fault 29 = .ok (.aload_n 0, 1) := by decide +kernel
theorem dX12_fault_30 : decode cX12_fault 30 = .ok (.bipush 6, 2) := by decide +kernel
theorem dX12_fault_32 : decode cX12_fault 32 = .ok (.invokevirtual 267, 3) := by decide +kernel
theorem dX12_fault_35 : decode cX12_fault 35 = .ok (.goto 5, 3) := by decide +kernel
theorem dX12_fault_38 : decode cX12_fault 38 = .ok (.bipush (-2), 2) := by decide +kernel
theorem dX12_fault_40 : decode cX12_fault 40 = .ok (.ireturn, 1) := by decide +kernel
set_option maxRecDepth 20000 in
def kX12_fault_0 (g : sk_G) (d ck sk : Nat) (Q : sk_P) : sk_K := o_iload 1 (o_ifne (o_iload 1 (o_i (1) (o_icne (o_iload 1 (o_i (2) (o_icne (o_i (-2) (o_iret (g, d, ck, sk, xX12_fault, Q))) (o_aload 0 (o_i (6) (o_invB (g, d, ck, sk, xX12_fault, Q) xX12_readWriting 1 12 0 0 (o_iret (g, d, ck, sk, xX12_fault, Q)))))))) (o_aload 0 (o_i (4) (o_invB (g, d, ck, sk, xX12_fault, Q) xX12_readLaw 1 12 0 0 (o_iret (g, d, ck, sk, xX12_fault, Q)))))))) (o_aload 0 (o_invB (g, d, ck, sk, xX12_fault, Q) xX12_readSkin 0 12 0 0 (o_iret (g, d, ck, sk, xX12_fault, Q)))))
set_option maxRecDepth 20000 in
theorem tX12_fault_0 {g : sk_G} {d ck sk : Nat} {Q : sk_P} : sk_S (g, d, ck, sk, xX12_fault, Q) 0 (kX12_fault_0 g d ck sk Q) := s_iload_n dX12_fault_0 rfl (s_ifne (tgt := 11) dX12_fault_1 (by decide) (s_iload_n dX12_fault_11 rfl (s_iconst dX12_fault_12 (s_icne (tgt := 24) dX12_fault_13 (by decide) (s_iload_n dX12_fault_24 rfl (s_iconst dX12_fault_25 (s_icne (tgt := 38) dX12_fault_26 (by decide) (s_bipush dX12_fault_38 rfl (s_iret dX12_fault_40 rfl)) (s_aload_n dX12_fault_29 rfl (s_bipush dX12_fault_30 rfl (s_invB (w' := (g, d, ck, sk, xX12_fault, Q)) (ci := 12) (ck := 0) (sk := 0) (T := TX12) (N := 49) dX12_fault_32 m_X12_readWriting rfl (by decide) qm_X12_267 qi_X12_readWriting qe_X12_readWriting rfl (s_goto (tgt := 40) dX12_fault_35 (by decide) (s_iret dX12_fault_40 rfl)))))))) (s_aload_n dX12_fault_16 rfl (s_iconst dX12_fault_17 (s_invB (w' := (g, d, ck, sk, xX12_fault, Q)) (ci := 12) (ck := 0) (sk := 0) (T := TX12) (N := 49) dX12_fault_18 m_X12_readLaw rfl (by decide) qm_X12_264 qi_X12_readLaw qe_X12_readLaw rfl (s_goto (tgt := 40) dX12_fault_21 (by decide) (s_iret dX12_fault_40 rfl)))))))) (s_aload_n dX12_fault_4 rfl (s_invB (w' := (g, d, ck, sk, xX12_fault, Q)) (ci := 12) (ck := 0) (sk := 0) (T := TX12) (N := 49) dX12_fault_5 m_X12_readSkin rfl (by decide) qm_X12_261 qi_X12_readSkin qe_X12_readSkin rfl (s_goto (tgt := 40) dX12_fault_8 (by decide) (s_iret dX12_fault_40 rfl)))))
theorem dX12_readSkin_0 : decode cX12_readSkin 0 = .ok (.aload_n 0, 1) := by decide +kernel
theorem dX12_readSkin_1 : decode cX12_readSkin 1 = .ok (.iconst 0, 1) := by decide +kernel
theorem dX12_readSkin_2 : decode cX12_readSkin 2 = .ok (.putfield 119, 3) := by decide +kernel
theorem dX12_readSkin_5 : decode cX12_readSkin 5 = .ok (.aload_n 0, 1) := by decide +kernel
theorem dX12_readSkin_6 : decode cX12_readSkin 6 = .ok (.iconst (-1), 1) := by decide +kernel
theorem dX12_readSkin_7 : decode cX12_readSkin 7 = .ok (.putfield 126, 3) := by decide +kernel
theorem dX12_readSkin_10 : decode cX12_readSkin 10 = .ok (.aload_n 0, 1) := by decide +kernel
theorem dX12_readSkin_11 : decode cX12_readSkin 11 = .ok (.iconst 0, 1) := by decide +kernel
theorem dX12_readSkin_12 : decode cX12_readSkin 12 = .ok (.putfield 248, 3) := by decide +kernel
theorem dX12_readSkin_15 : decode cX12_readSkin 15 = .ok (.iconst 0, 1) := by decide +kernel
theorem dX12_readSkin_16 : decode cX12_readSkin 16 = .ok (.istore_n 1, 1) := by decide +kernel
theorem dX12_readSkin_17 : decode cX12_readSkin 17 = .ok (.iconst 0, 1) := by decide +kernel
theorem dX12_readSkin_18 : decode cX12_readSkin 18 = .ok (.istore_n 2, 1) := by decide +kernel
theorem dX12_readSkin_19 : decode cX12_readSkin 19 = .ok (.iload_n 2, 1) := by decide +kernel
theorem dX12_readSkin_20 : decode cX12_readSkin 20 = .ok (.iconst 4, 1) := by decide +kernel
theorem dX12_readSkin_21 : decode cX12_readSkin 21 = .ok (.if_icmp .ge 21, 3) := by decide +kernel
theorem dX12_readSkin_24 : decode cX12_readSkin 24 = .ok (.aload_n 0, 1) := by decide +kernel
theorem dX12_readSkin_25 : decode cX12_readSkin 25 = .ok (.getfield 40, 3) := by decide +kernel
theorem dX12_readSkin_28 : decode cX12_readSkin 28 = .ok (.iload_n 2, 1) := by decide +kernel
theorem dX12_readSkin_29 : decode cX12_readSkin 29 = .ok (.bipush 115, 2) := by decide +kernel
theorem dX12_readSkin_31 : decode cX12_readSkin 31 = .ok (.iload_n 2, 1) := by decide +kernel
theorem dX12_readSkin_32 : decode cX12_readSkin 32 = .ok (.invokestatic 228, 3) := by decide +kernel
theorem dX12_readSkin_35 : decode cX12_readSkin 35 = .ok (.iastore, 1) := by decide +kernel
theorem dX12_readSkin_36 : decode cX12_readSkin 36 = .ok (.iinc 2 1, 3) := by decide +kernel
theorem dX12_readSkin_39 : decode cX12_readSkin 39 = .ok (.goto (-20), 3) := by decide +kernel
theorem dX12_readSkin_42 : decode cX12_readSkin 42 = .ok (.iconst 1, 1) := by decide +kernel
theorem dX12_readSkin_43 : decode cX12_readSkin 43 = .ok (.istore_n 2, 1) := by decide +kernel
theorem dX12_readSkin_44 : decode cX12_readSkin 44 = .ok (.iload_n 2, 1) := by decide +kernel
theorem dX12_readSkin_45 : decode cX12_readSkin 45 = .ok (.ifCond .eq 153, 3) := by decide +kernel
theorem dX12_readSkin_48 : decode cX12_readSkin 48 = .ok (.aload_n 0, 1) := by decide +kernel
theorem dX12_readSkin_49 : decode cX12_readSkin 49 = .ok (.getfield 126, 3) := by decide +kernel
theorem dX12_readSkin_52 : decode cX12_readSkin 52 = .ok (.iconst (-1), 1) := by decide +kernel
theorem dX12_readSkin_53 : decode cX12_readSkin 53 = .ok (.if_icmp .ne 145, 3) := by decide +kernel
theorem dX12_readSkin_56 : decode cX12_readSkin 56 = .ok (.aload_n 0, 1) := by decide +kernel
theorem dX12_readSkin_57 : decode cX12_readSkin 57 = .ok (.invokevirtual 138, 3) := by decide +kernel
theorem dX12_readSkin_60 : decode cX12_readSkin 60 = .ok (.istore_n 3, 1) := by decide +kernel
theorem dX12_readSkin_61 : decode cX12_readSkin 61 = .ok (.iload_n 3, 1) := by decide +kernel
theorem dX12_readSkin_62 : decode cX12_readSkin 62 = .ok (.bipush 115, 2) := by decide +kernel
theorem dX12_readSkin_64 : decode cX12_readSkin 64 = .ok (.if_icmp .ne 33, 3) := by decide +kernel
theorem dX12_readSkin_67 : decode cX12_readSkin 67 = .ok (.iload_n 1, 1) := by decide +kernel
theorem dX12_readSkin_68 : decode cX12_readSkin 68 = .ok (.ifCond .ne 29, 3) := by decide +kernel
theorem dX12_readSkin_71 : decode cX12_readSkin 71 = .ok (.iconst 1, 1) := by decide +kernel
theorem dX12_readSkin_72 : decode cX12_readSkin 72 = .ok (.istore_n 1, 1) := by decide +kernel
theorem dX12_readSkin_73 : decode cX12_readSkin 73 = .ok (.aload_n 0, 1) := by decide +kernel
theorem dX12_readSkin_74 : decode cX12_readSkin 74 = .ok (.dup, 1) := by decide +kernel
theorem dX12_readSkin_75 : decode cX12_readSkin 75 = .ok (.getfield 119, 3) := by decide +kernel
theorem dX12_readSkin_78 : decode cX12_readSkin 78 = .ok (.iconst 1, 1) := by decide +kernel
theorem dX12_readSkin_79 : decode cX12_readSkin 79 = .ok (.iadd, 1) := by decide +kernel
theorem dX12_readSkin_80 : decode cX12_readSkin 80 = .ok (.putfield 119, 3) := by decide +kernel
theorem dX12_readSkin_83 : decode cX12_readSkin 83 = .ok (.aload_n 0, 1) := by decide +kernel
theorem dX12_readSkin_84 : decode cX12_readSkin 84 = .ok (.iload_n 3, 1) := by decide +kernel
theorem dX12_readSkin_85 : decode cX12_readSkin 85 = .ok (.aload_n 0, 1) := by decide +kernel
theorem dX12_readSkin_86 : decode cX12_readSkin 86 = .ok (.getfield 40, 3) := by decide +kernel
theorem dX12_readSkin_89 : decode cX12_readSkin 89 = .ok (.iconst 0, 1) := by decide +kernel
theorem dX12_readSkin_90 : decode cX12_readSkin 90 = .ok (.iconst 4, 1) := by decide +kernel
theorem dX12_readSkin_91 : decode cX12_readSkin 91 = .ok (.invokevirtual 251, 3) := by decide +kernel
theorem dX12_readSkin_94 : decode cX12_readSkin 94 = .ok (.goto 60, 3) := by decide +kernel
theorem dX12_readSkin_97 : decode cX12_readSkin 97 = .ok (.iload_n 3, 1) := by decide +kernel
theorem dX12_readSkin_98 : decode cX12_readSkin 98 = .ok (.bipush 104, 2) := by decide +kernel
theorem dX12_readSkin_100 : decode cX12_readSkin 100 = .ok (.if_icmp .ne 50, 3) := by decide +kernel
theorem dX12_readSkin_103 : decode cX12_readSkin 103 = .ok (.aload_n 0, 1) := by decide +kernel
theorem dX12_readSkin_104 : decode cX12_readSkin 104 = .ok (.getfield 248, 3) := by decide +kernel
theorem dX12_readSkin_107 : decode cX12_readSkin 107 = .ok (.iconst 4, 1) := by decide +kernel
theorem dX12_readSkin_108 : decode cX12_readSkin 108 = .ok (.if_icmp .ge 42, 3) := by decide +kernel
theorem dX12_readSkin_111 : decode cX12_readSkin 111 = .ok (.aload_n 0, 1) := by decide +kernel
theorem dX12_readSkin_112 : decode cX12_readSkin 112 = .ok (.dup, 1) := by decide +kernel
theorem dX12_readSkin_113 : decode cX12_readSkin 113 = .ok (.getfield 119, 3) := by decide +kernel
theorem dX12_readSkin_116 : decode cX12_readSkin 116 = .ok (.iconst 1, 1) := by decide +kernel
theorem dX12_readSkin_117 : decode cX12_readSkin 117 = .ok (.iadd, 1) := by decide +kernel
theorem dX12_readSkin_118 : decode cX12_readSkin 118 = .ok (.putfield 119, 3) := by decide +kernel
theorem dX12_readSkin_121 : decode cX12_readSkin 121 = .ok (.aload_n 0, 1) := by decide +kernel
theorem dX12_readSkin_122 : decode cX12_readSkin 122 = .ok (.iload_n 3, 1) := by decide +kernel
theorem dX12_readSkin_123 : decode cX12_readSkin 123 = .ok (.aload_n 0, 1) := by decide +kernel
theorem dX12_readSkin_124 : decode cX12_readSkin 124 = .ok (.getfield 43, 3) := by decide +kernel
theorem dX12_readSkin_127 : decode cX12_readSkin 127 = .ok (.iconst 2, 1) := by decide +kernel
theorem dX12_readSkin_128 : decode cX12_readSkin 128 = .ok (.aload_n 0, 1) := by decide +kernel
theorem dX12_readSkin_129 : decode cX12_readSkin 129 = .ok (.getfield 248, 3) := by decide +kernel
theorem dX12_readSkin_132 : decode cX12_readSkin 132 = .ok (.imul, 1) := by decide +kernel
theorem dX12_readSkin_133 : decode cX12_readSkin 133 = .ok (.iconst 2, 1) := by decide +kernel
theorem dX12_readSkin_134 : decode cX12_readSkin 134 = .ok (.invokevirtual 251, 3) := by decide +kernel
theorem dX12_readSkin_137 : decode cX12_readSkin 137 = .ok (.aload_n 0, 1) := by decide +kernel
theorem dX12_readSkin_138 : decode cX12_readSkin 138 = .ok (.dup, 1) := by decide +kernel
theorem dX12_readSkin_139 : decode cX12_readSkin 139 = .ok (.getfield 248, 3) := by decide +kernel
theorem dX12_readSkin_142 : decode cX12_readSkin 142 = .ok (.iconst 1, 1) := by decide +kernel
theorem dX12_readSkin_143 : decode cX12_readSkin 143 = .ok (.iadd, 1) := by decide +kernel
theorem dX12_readSkin_144 : decode cX12_readSkin 144 = .ok (.putfield 248, 3) := by decide +kernel
theorem dX12_readSkin_147 : decode cX12_readSkin 147 = .ok (.goto 7, 3) := by decide +kernel
theorem dX12_readSkin_150 : decode cX12_readSkin 150 = .ok (.aload_n 0, 1) := by decide +kernel
theorem dX12_readSkin_151 : decode cX12_readSkin 151 = .ok (.invokevirtual 135, 3) := by decide +kernel
theorem dX12_readSkin_154 : decode cX12_readSkin 154 = .ok (.aload_n 0, 1) := by decide +kernel
theorem dX12_readSkin_155 : decode cX12_readSkin 155 = .ok (.getfield 126, 3) := by decide +kernel
theorem dX12_readSkin_158 : decode cX12_readSkin 158 = .ok (.iconst (-1), 1) := by decide +kernel
theorem dX12_readSkin_159 : decode cX12_readSkin 159 = .ok (.if_icmp .ne 16, 3) := by decide +kernel
theorem dX12_readSkin_162 : decode cX12_readSkin 162 = .ok (.aload_n 0, 1) := by decide +kernel
theorem dX12_readSkin_163 : decode cX12_readSkin 163 = .ok (.invokevirtual 138, 3) := by decide +kernel
theorem dX12_readSkin_166 : decode cX12_readSkin 166 = .ok (.bipush 59, 2) := by decide +kernel
theorem dX12_readSkin_168 : decode cX12_readSkin 168 = .ok (.if_icmp .ne 7, 3) := by decide +kernel
theorem dX12_readSkin_171 : decode cX12_readSkin 171 = .ok (.iconst 1, 1) := by decide +kernel
theorem dX12_readSkin_172 : decode cX12_readSkin 172 = .ok (.goto 4, 3) := by decide +kernel
theorem dX12_readSkin_175 : decode cX12_readSkin 175 = .ok (.iconst 0, 1) := by decide +kernel
theorem dX12_readSkin_176 : decode cX12_readSkin 176 = .ok (.istore_n 2, 1) := by decide +kernel
theorem dX12_readSkin_177 : decode cX12_readSkin 177 = .ok (.aload_n 0, 1) := by decide +kernel
theorem dX12_readSkin_178 : decode cX12_readSkin 178 = .ok (.dup, 1) := by decide +kernel
theorem dX12_readSkin_179 : decode cX12_readSkin 179 = .ok (.getfield 119, 3) := by decide +kernel
theorem dX12_readSkin_182 : decode cX12_readSkin 182 = .ok (.iload_n 2, 1) := by decide +kernel
theorem dX12_readSkin_183 : decode cX12_readSkin 183 = .ok (.ifCond .eq 7, 3) := by decide +kernel
theorem dX12_readSkin_186 : decode cX12_readSkin 186 = .ok (.iconst 1, 1) := by decide +kernel
theorem dX12_readSkin_187 : decode cX12_readSkin 187 = .ok (.goto 4, 3) := by decide +kernel
theorem dX12_readSkin_190 : decode cX12_readSkin 190 = .ok (.iconst 0, 1) := by decide +kernel
theorem dX12_readSkin_191 : decode cX12_readSkin 191 = .ok (.iadd, 1) := by decide +kernel
theorem dX12_readSkin_192 : decode cX12_readSkin 192 = .ok (.putfield 119, 3) := by decide +kernel
theorem dX12_readSkin_195 : decode cX12_readSkin 195 = .ok (.goto (-151), 3) := by decide +kernel
theorem dX12_readSkin_198 : decode cX12_readSkin 198 = .ok (.aload_n 0, 1) := by decide +kernel
theorem dX12_readSkin_199 : decode cX12_readSkin 199 = .ok (.getfield 126, 3) := by decide +kernel
theorem dX12_readSkin_202 : decode cX12_readSkin 202 = .ok (.iconst (-1), 1) := by decide +kernel
theorem dX12_readSkin_203 : decode cX12_readSkin 203 = .ok (.if_icmp .ne 22, 3) := by decide +kernel
theorem dX12_readSkin_206 : decode cX12_readSkin 206 = .ok (.aload_n 0, 1) := by decide +kernel
theorem dX12_readSkin_207 : decode cX12_readSkin 207 = .ok (.invokevirtual 138, 3) := by decide +kernel
theorem dX12_readSkin_210 : decode cX12_readSkin 210 = .ok (.iconst (-1), 1) := by decide +kernel
theorem dX12_readSkin_211 : decode cX12_readSkin 211 = .ok (.if_icmp .ne 10, 3) := by decide +kernel
theorem dX12_readSkin_214 : decode cX12_readSkin 214 = .ok (.aload_n 0, 1) := by decide +kernel
theorem dX12_readSkin_215 : decode cX12_readSkin 215 = .ok (.getfield 248, 3) := by decide +kernel
theorem dX12_readSkin_218 : decode cX12_readSkin 218 = .ok (.ifCond .ne 7, 3) := by decide +kernel
theorem dX12_readSkin_221 : decode cX12_readSkin 221 = .ok (.aload_n 0, 1) := by decide +kernel
theorem dX12_readSkin_222 : decode cX12_readSkin 222 = .ok (.invokevirtual 135, 3) := by decide +kernel
theorem dX12_readSkin_225 : decode cX12_readSkin 225 = .ok (.aload_n 0, 1) := by decide +kernel
theorem dX12_readSkin_226 : decode cX12_readSkin 226 = .ok (.getfield 126, 3) := by decide +kernel
theorem dX12_readSkin_229 : decode cX12_readSkin 229 = .ok (.ireturn, 1) := by decide +kernel
set_option maxRecDepth 20000 in
def kX12_readSkin_0 (g : sk_G) (d ck sk : Nat) (Q : sk_P) : sk_K := o_aload 0 (o_i (0) (o_puti 12 3 (o_aload 0 (o_i (-1) (o_puti 12 4 (o_aload 0 (o_i (0) (o_puti 12 19 (o_i (0) (o_istore 1 (o_i (0) (o_istore 2 (sk_B (g, d, ck, sk, xX12_readSkin, Q) 19)))))))))))))
set_option maxRecDepth 20000 in
theorem tX12_readSkin_0 {g : sk_G} {d ck sk : Nat} {Q : sk_P} : sk_S (g, d, ck, sk, xX12_readSkin, Q) 0 (kX12_readSkin_0 g d ck sk Q) := s_aload_n dX12_readSkin_0 rfl (s_iconst dX12_readSkin_1 (s_puti (ci := 12) (j := 3) (C := RX12) (T := TX12) (N := 49) dX12_readSkin_2 rfl (by decide) (by decide) rfl (tyX12_ok 3 (by decide)) qf_X12_119 (s_aload_n dX12_readSkin_5 rfl (s_iconst dX12_readSkin_6 (s_puti (ci := 12) (j := 4) (C := RX12) (T := TX12) (N := 49) dX12_readSkin_7 rfl (by decide) (by decide) rfl (tyX12_ok 4 (by decide)) qf_X12_126 (s_aload_n dX12_readSkin_10 rfl (s_iconst dX12_readSkin_11 (s_puti (ci := 12) (j := 19) (C := RX12) (T := TX12) (N := 49) dX12_readSkin_12 rfl (by decide) (by decide) rfl (tyX12_ok 19 (by decide)) qf_X12_248 (s_iconst dX12_readSkin_15 (s_istore_n dX12_readSkin_16 rfl (by decide : 1 < 4) (s_iconst dX12_readSkin_17 (s_istore_n dX12_readSkin_18 rfl (by decide : 2 < 4) (sk_id)))))))))))))
set_option maxRecDepth 20000 in
def kX12_readSkin_19 (g : sk_G) (d ck sk : Nat) (Q : sk_P) : sk_K := o_iload 2 (o_i (4) (o_icge (o_i (1) (o_istore 2 (sk_B (g, d, ck, sk, xX12_readSkin, Q) 44))) (o_aload 0 (o_getf 12 17 (o_iload 2 (o_i (115) (o_iload 2 (o_stcB (g, d, ck, sk, xX12_readSkin, Q) xX12_usual 2 0 0 (o_iastore (o_iinc 2 (1) (sk_B (g, d, ck, sk, xX12_readSkin, Q) 19)))))))))))
set_option maxRecDepth 20000 in
theorem tX12_readSkin_19 {g : sk_G} {d ck sk : Nat} {Q : sk_P} : sk_S (g, d, ck, sk, xX12_readSkin, Q) 19 (kX12_readSkin_19 g d ck sk Q) := s_iload_n dX12_readSkin_19 rfl (s_iconst dX12_readSkin_20 (s_icge (tgt := 42) dX12_readSkin_21 (by decide) (s_iconst dX12_readSkin_42 (s_istore_n dX12_readSkin_43 rfl (by decide : 2 < 4) (sk_id))) (s_aload_n dX12_readSkin_24 rfl (s_getf (ci := 12) (j := 17) (C := RX12) (T := TX12) (N := 49) dX12_readSkin_25 rfl (by decide) (by decide) qf_X12_40 (s_iload_n dX12_readSkin_28 rfl (s_bipush dX12_readSkin_29 rfl (s_iload_n dX12_readSkin_31 rfl (s_stcB (w' := (g, d, ck, sk, xX12_readSkin, Q)) (ck := 0) (sk := 0) dX12_readSkin_32 m_X12_usual qm_X12_228 qs_X12_usual rfl (s_iastore dX12_readSkin_35 (s_iinc dX12_readSkin_36 (by decide : 2 < 4) (s_goto (tgt := 19) dX12_readSkin_39 (by decide) (sk_id))))))))))))
set_option maxRecDepth 20000 in
def kX12_readSkin_44 (g : sk_G) (d ck sk : Nat) (Q : sk_P) : sk_K := o_iload 2 (o_ifeq (sk_B (g, d, ck, sk, xX12_readSkin, Q) 198) (o_aload 0 (o_getf 12 4 (o_i (-1) (o_icne (sk_B (g, d, ck, sk, xX12_readSkin, Q) 198) (o_aload 0 (o_invB (g, d, ck, sk, xX12_readSkin, Q) xX12_look 0 12 0 0 (o_istore 3 (o_iload 3 (o_i (115) (o_icne (sk_B (g, d, ck, sk, xX12_readSkin, Q) 97) (o_iload 1 (o_ifne (sk_B (g, d, ck, sk, xX12_readSkin, Q) 97) (o_i (1) (o_istore 1 (o_aload 0 (o_dup (o_getf 12 3 (o_i (1) (o_iadd (o_puti 12 3 (o_aload 0 (o_iload 3 (o_aload 0 (o_getf 12 17 (o_i (0) (o_i (4) (o_invB (g, d, ck, sk, xX12_readSkin, Q) xX12_items 4 12 0 0 (sk_B (g, d, ck, sk, xX12_readSkin, Q) 154)))))))))))))))))))))))))))))
set_option maxRecDepth 20000 in
theorem tX12_readSkin_44 {g : sk_G} {d ck sk : Nat} {Q : sk_P} : sk_S (g, d, ck, sk, xX12_readSkin, Q) 44 (kX12_readSkin_44 g d ck sk Q) := s_iload_n dX12_readSkin_44 rfl (s_ifeq (tgt := 198) dX12_readSkin_45 (by decide) (sk_id) (s_aload_n dX12_readSkin_48 rfl (s_getf (ci := 12) (j := 4) (C := RX12) (T := TX12) (N := 49) dX12_readSkin_49 rfl (by decide) (by decide) qf_X12_126 (s_iconst dX12_readSkin_52 (s_icne (tgt := 198) dX12_readSkin_53 (by decide) (sk_id) (s_aload_n dX12_readSkin_56 rfl (s_invB (w' := (g, d, ck, sk, xX12_readSkin, Q)) (ci := 12) (ck := 0) (sk := 0) (T := TX12) (N := 49) dX12_readSkin_57 m_X12_look rfl (by decide) qm_X12_138 qi_X12_look qe_X12_look rfl (s_istore_n dX12_readSkin_60 rfl (by decide : 3 < 4) (s_iload_n dX12_readSkin_61 rfl (s_bipush dX12_readSkin_62 rfl (s_icne (tgt := 97) dX12_readSkin_64 (by decide) (sk_id) (s_iload_n dX12_readSkin_67 rfl (s_ifne (tgt := 97) dX12_readSkin_68 (by decide) (sk_id) (s_iconst dX12_readSkin_71 (s_istore_n dX12_readSkin_72 rfl (by decide : 1 < 4) (s_aload_n dX12_readSkin_73 rfl (s_dup dX12_readSkin_74 (s_getf (ci := 12) (j := 3) (C := RX12) (T := TX12) (N := 49) dX12_readSkin_75 rfl (by decide) (by decide) qf_X12_119 (s_iconst dX12_readSkin_78 (s_iadd dX12_readSkin_79 (s_puti (ci := 12) (j := 3) (C := RX12) (T := TX12) (N := 49) dX12_readSkin_80 rfl (by decide) (by decide) rfl (tyX12_ok 3 (by decide)) qf_X12_119 (s_aload_n dX12_readSkin_83 rfl (s_iload_n dX12_readSkin_84 rfl (s_aload_n dX12_readSkin_85 rfl (s_getf (ci := 12) (j := 17) (C := RX12) (T := TX12) (N := 49) dX12_readSkin_86 rfl (by decide) (by decide) qf_X12_40 (s_iconst dX12_readSkin_89 (s_iconst dX12_readSkin_90 (s_invB (w' := (g, d, ck, sk, xX12_readSkin, Q)) (ci := 12) (ck := 0) (sk := 0) (T := TX12) (N := 49) dX12_readSkin_91 m_X12_items rfl (by decide) qm_X12_251 qi_X12_items qe_X12_items rfl (s_goto (tgt := 154) dX12_readSkin_94 (by decide) (sk_id))))))))))))))))))))))))))))))
set_option maxRecDepth 20000 in
def kX12_readSkin_97 (g : sk_G) (d ck sk : Nat) (Q : sk_P) : sk_K := o_iload 3 (o_i (104) (o_icne (o_aload 0 (o_invB (g, d, ck, sk, xX12_readSkin, Q) xX12_bad 0 12 0 0 (sk_B (g, d, ck, sk, xX12_readSkin, Q) 154))) (o_aload 0 (o_getf 12 19 (o_i (4) (o_icge (o_aload 0 (o_invB (g, d, ck, sk, xX12_readSkin, Q) xX12_bad 0 12 0 0 (sk_B (g, d, ck, sk, xX12_readSkin, Q) 154))) (o_aload 0 (o_dup (o_getf 12 3 (o_i (1) (o_iadd (o_puti 12 3 (o_aload 0 (o_iload 3 (o_aload 0 (o_getf 12 18 (o_i (2) (o_aload 0 (o_getf 12 19 (o_imul (o_i (2) (o_invB (g, d, ck, sk, xX12_readSkin, Q) xX12_items 4 12 0 0 (o_aload 0 (o_dup (o_getf 12 19 (o_i (1) (o_iadd (o_puti 12 19 (sk_B (g, d, ck, sk, xX12_readSkin, Q) 154)))))))))))))))))))))))))))))
set_option maxRecDepth 20000 in
theorem tX12_readSkin_97 {g : sk_G} {d ck sk : Nat} {Q : sk_P} : sk_S (g, d, ck, sk, xX12_readSkin, Q) 97 (kX12_readSkin_97 g d ck sk Q) := s_iload_n dX12_readSkin_97 rfl (s_bipush dX12_readSkin_98 rfl (s_icne (tgt := 150) dX12_readSkin_100 (by decide) (s_aload_n dX12_readSkin_150 rfl (s_invB (w' := (g, d, ck, sk, xX12_readSkin, Q)) (ci := 12) (ck := 0) (sk := 0) (T := TX12) (N := 49) dX12_readSkin_151 m_X12_bad rfl (by decide) qm_X12_135 qi_X12_bad qe_X12_bad rfl (sk_id))) (s_aload_n dX12_readSkin_103 rfl (s_getf (ci := 12) (j := 19) (C := RX12) (T := TX12) (N := 49) dX12_readSkin_104 rfl (by decide) (by decide) qf_X12_248 (s_iconst dX12_readSkin_107 (s_icge (tgt := 150) dX12_readSkin_108 (by decide) (s_aload_n dX12_readSkin_150 rfl (s_invB (w' := (g, d, ck, sk, xX12_readSkin, Q)) (ci := 12) (ck := 0) (sk := 0) (T := TX12) (N := 49) dX12_readSkin_151 m_X12_bad rfl (by decide) qm_X12_135 qi_X12_bad qe_X12_bad rfl (sk_id))) (s_aload_n dX12_readSkin_111 rfl (s_dup dX12_readSkin_112 (s_getf (ci := 12) (j := 3) (C := RX12) (T := TX12) (N := 49) dX12_readSkin_113 rfl (by decide) (by decide) qf_X12_119 (s_iconst dX12_readSkin_116 (s_iadd dX12_readSkin_117 (s_puti (ci := 12) (j := 3) (C := RX12) (T := TX12) (N := 49) dX12_readSkin_118 rfl (by decide) (by decide) rfl (tyX12_ok 3 (by decide)) qf_X12_119 (s_aload_n dX12_readSkin_121 rfl (s_iload_n dX12_readSkin_122 rfl (s_aload_n dX12_readSkin_123 rfl (s_getf (ci := 12) (j := 18) (C := RX12) (T := TX12) (N := 49) dX12_readSkin_124 rfl (by decide) (by decide) qf_X12_43 (s_iconst dX12_readSkin_127 (s_aload_n dX12_readSkin_128 rfl (s_getf (ci := 12) (j := 19) (C := RX12) (T := TX12) (N := 49) dX12_readSkin_129 rfl (by decide) (by decide) qf_X12_248 (s_imul dX12_readSkin_132 (s_iconst dX12_readSkin_133 (s_invB (w' := (g, d, ck, sk, xX12_readSkin, Q)) (ci := 12) (ck := 0) (sk := 0) (T := TX12) (N := 49) dX12_readSkin_134 m_X12_items rfl (by decide) qm_X12_251 qi_X12_items qe_X12_items rfl (s_aload_n dX12_readSkin_137 rfl (s_dup dX12_readSkin_138 (s_getf (ci := 12) (j := 19) (C := RX12) (T := TX12) (N := 49) dX12_readSkin_139 rfl (by decide) (by decide) qf_X12_248 (s_iconst dX12_readSkin_142 (s_iadd dX12_readSkin_143 (s_puti (ci := 12) (j := 19) (C := RX12) (T := TX12) (N := 49) dX12_readSkin_144 rfl (by decide) (by decide) rfl (tyX12_ok 19 (by decide)) qf_X12_248 (s_goto (tgt := 154) dX12_readSkin_147 (by decide) (sk_id))))))))))))))))))))))))))))))
set_option maxRecDepth 20000 in
def kX12_readSkin_154 (g : sk_G) (d ck sk : Nat) (Q : sk_P) : sk_K := o_aload 0 (o_getf 12 4 (o_i (-1) (o_icne (o_i (0) (sk_B (g, d, ck, sk, xX12_readSkin, Q) 176)) (o_aload 0 (o_invB (g, d, ck, sk, xX12_readSkin, Q) xX12_look 0 12 0 0 (o_i (59) (o_icne (o_i (0) (sk_B (g, d, ck, sk, xX12_readSkin, Q) 176)) (o_i (1) (sk_B (g, d, ck, sk, xX12_readSkin, Q) 176)))))))))
set_option maxRecDepth 20000 in
theorem tX12_readSkin_154 {g : sk_G} {d ck sk : Nat} {Q : sk_P} : sk_S (g, d, ck, sk, xX12_readSkin, Q) 154 (kX12_readSkin_154 g d ck sk Q) := s_aload_n dX12_readSkin_154 rfl (s_getf (ci := 12) (j := 4) (C := RX12) (T := TX12) (N := 49) dX12_readSkin_155 rfl (by decide) (by decide) qf_X12_126 (s_iconst dX12_readSkin_158 (s_icne (tgt := 175) dX12_readSkin_159 (by decide) (s_iconst dX12_readSkin_175 (sk_id)) (s_aload_n dX12_readSkin_162 rfl (s_invB (w' := (g, d, ck, sk, xX12_readSkin, Q)) (ci := 12) (ck := 0) (sk := 0) (T := TX12) (N := 49) dX12_readSkin_163 m_X12_look rfl (by decide) qm_X12_138 qi_X12_look qe_X12_look rfl (s_bipush dX12_readSkin_166 rfl (s_icne (tgt := 175) dX12_readSkin_168 (by decide) (s_iconst dX12_readSkin_175 (sk_id)) (s_iconst dX12_readSkin_171 (s_goto (tgt := 176) dX12_readSkin_172 (by decide) (sk_id))))))))))
set_option maxRecDepth 20000 in
def kX12_readSkin_176 (g : sk_G) (d ck sk : Nat) (Q : sk_P) : sk_K := o_istore 2 (o_aload 0 (o_dup (o_getf 12 3 (o_iload 2 (o_ifeq (o_i (0) (o_iadd (o_puti 12 3 (sk_B (g, d, ck, sk, xX12_readSkin, Q) 44)))) (o_i (1) (o_iadd (o_puti 12 3 (sk_B (g, d, ck, sk, xX12_readSkin, Q) 44)))))))))
set_option maxRecDepth 20000 in
theorem tX12_readSkin_176 {g : sk_G} {d ck sk : Nat} {Q : sk_P} : sk_S (g, d, ck, sk, xX12_readSkin, Q) 176 (kX12_readSkin_176 g d ck sk Q) := s_istore_n dX12_readSkin_176 rfl (by decide : 2 < 4) (s_aload_n dX12_readSkin_177 rfl (s_dup dX12_readSkin_178 (s_getf (ci := 12) (j := 3) (C := RX12) (T := TX12) (N := 49) dX12_readSkin_179 rfl (by decide) (by decide) qf_X12_119 (s_iload_n dX12_readSkin_182 rfl (s_ifeq (tgt := 190) dX12_readSkin_183 (by decide) (s_iconst dX12_readSkin_190 (s_iadd dX12_readSkin_191 (s_puti (ci := 12) (j := 3) (C := RX12) (T := TX12) (N := 49) dX12_readSkin_192 rfl (by decide) (by decide) rfl (tyX12_ok 3 (by decide)) qf_X12_119 (s_goto (tgt := 44) dX12_readSkin_195 (by decide) (sk_id))))) (s_iconst dX12_readSkin_186 (s_goto (tgt := 191) dX12_readSkin_187 (by decide) (s_iadd dX12_readSkin_191 (s_puti (ci := 12) (j := 3) (C := RX12) (T := TX12) (N := 49) dX12_readSkin_192 rfl (by decide) (by decide) rfl (tyX12_ok 3 (by decide)) qf_X12_119 (s_goto (tgt := 44) dX12_readSkin_195 (by decide) (sk_id)))))))))))
set_option maxRecDepth 20000 in
def kX12_readSkin_198 (g : sk_G) (d ck sk : Nat) (Q : sk_P) : sk_K := o_aload 0 (o_getf 12 4 (o_i (-1) (o_icne (o_aload 0 (o_getf 12 4 (o_iret (g, d, ck, sk, xX12_readSkin, Q)))) (o_aload 0 (o_invB (g, d, ck, sk, xX12_readSkin, Q) xX12_look 0 12 0 0 (o_i (-1) (o_icne (o_aload 0 (o_invB (g, d, ck, sk, xX12_readSkin, Q) xX12_bad 0 12 0 0 (o_aload 0 (o_getf 12 4 (o_iret (g, d, ck, sk, xX12_readSkin, Q)))))) (o_aload 0 (o_getf 12 19 (o_ifne (o_aload 0 (o_getf 12 4 (o_iret (g, d, ck, sk, xX12_readSkin, Q)))) (o_aload 0 (o_invB (g, d, ck, sk, xX12_readSkin, Q) xX12_bad 0 12 0 0 (o_aload 0 (o_getf 12 4 (o_iret (g, d, ck, sk, xX12_readSkin, Q))))))))))))))))
set_option maxRecDepth 20000 in
theorem tX12_readSkin_198 {g : sk_G} {d ck sk : Nat} {Q : sk_P} : sk_S (g, d, ck, sk, xX12_readSkin, Q) 198 (kX12_readSkin_198 g d ck sk Q) := s_aload_n dX12_readSkin_198 rfl (s_getf (ci := 12) (j := 4) (C := RX12) (T := TX12) (N := 49) dX12_readSkin_199 rfl (by decide) (by decide) qf_X12_126 (s_iconst dX12_readSkin_202 (s_icne (tgt := 225) dX12_readSkin_203 (by decide) (s_aload_n dX12_readSkin_225 rfl (s_getf (ci := 12) (j := 4) (C := RX12) (T := TX12) (N := 49) dX12_readSkin_226 rfl (by decide) (by decide) qf_X12_126 (s_iret dX12_readSkin_229 rfl))) (s_aload_n dX12_readSkin_206 rfl (s_invB (w' := (g, d, ck, sk, xX12_readSkin, Q)) (ci := 12) (ck := 0) (sk := 0) (T := TX12) (N := 49) dX12_readSkin_207 m_X12_look rfl (by decide) qm_X12_138 qi_X12_look qe_X12_look rfl (s_iconst dX12_readSkin_210 (s_icne (tgt := 221) dX12_readSkin_211 (by decide) (s_aload_n dX12_readSkin_221 rfl (s_invB (w' := (g, d, ck, sk, xX12_readSkin, Q)) (ci := 12) (ck := 0) (sk := 0) (T := TX12) (N := 49) dX12_readSkin_222 m_X12_bad rfl (by decide) qm_X12_135 qi_X12_bad qe_X12_bad rfl (s_aload_n dX12_readSkin_225 rfl (s_getf (ci := 12) (j := 4) (C := RX12) (T := TX12) (N := 49) dX12_readSkin_226 rfl (by decide) (by decide) qf_X12_126 (s_iret dX12_readSkin_229 rfl))))) (s_aload_n dX12_readSkin_214 rfl (s_getf (ci := 12) (j := 19) (C := RX12) (T := TX12) (N := 49) dX12_readSkin_215 rfl (by decide) (by decide) qf_X12_248 (s_ifne (tgt := 225) dX12_readSkin_218 (by decide) (s_aload_n dX12_readSkin_225 rfl (s_getf (ci := 12) (j := 4) (C := RX12) (T := TX12) (N := 49) dX12_readSkin_226 rfl (by decide) (by decide) qf_X12_126 (s_iret dX12_readSkin_229 rfl))) (s_aload_n dX12_readSkin_221 rfl (s_invB (w' := (g, d, ck, sk, xX12_readSkin, Q)) (ci := 12) (ck := 0) (sk := 0) (T := TX12) (N := 49) dX12_readSkin_222 m_X12_bad rfl (by decide) qm_X12_135 qi_X12_bad qe_X12_bad rfl (s_aload_n dX12_readSkin_225 rfl (s_getf (ci := 12) (j := 4) (C := RX12) (T := TX12) (N := 49) dX12_readSkin_226 rfl (by decide) (by decide) qf_X12_126 (s_iret dX12_readSkin_229 rfl)))))))))))))))
theorem dX12_usual_0 : decode cX12_usual 0 = .ok (.iload_n 0, 1) := by decide +kernel
theorem dX12_usual_1 : decode cX12_usual 1 = .ok (.bipush 115, 2) := by decide +kernel
theorem dX12_usual_3 : decode cX12_usual 3 = .ok (.if_icmp .ne 33, 3) := by decide +kernel
theorem dX12_usual_6 : decode cX12_usual 6 = .ok (.iload_n 1, 1) := by decide +kernel
theorem dX12_usual_7 : decode cX12_usual 7 = .ok (.ifCond .ne 8, 3) := by decide +kernel
theorem dX12_usual_10 : decode cX12_usual 10 = .ok (.bipush 6, 2) := by decide +kernel
theorem dX12_usual_12 : decode cX12_usual 12 = .ok (.goto 23, 3) := by decide +kernel
theorem dX12_usual_15 : decode cX12_usual 15 = .ok (.iload_n 1, 1) := by decide +kernel
theorem dX12_usual_16 : decode cX12_usual 16 = .ok (.iconst 1, 1) := by decide +kernel
theorem dX12_usual_17 : decode cX12_usual 17 = .ok (.if_icmp .ne 7, 3) := by decide +kernel
theorem dX12_usual_20 : decode cX12_usual 20 = .ok (.iconst 4, 1) := by decide +kernel
theorem dX12_usual_21 : decode cX12_usual 21 = .ok (.goto 14, 3) := by decide +kernel
theorem dX12_usual_24 : decode cX12_usual 24 = .ok (.iload_n 1, 1) := by decide +kernel
theorem dX12_usual_25 : decode cX12_usual 25 = .ok (.iconst 2, 1) := by decide +kernel
theorem dX12_usual_26 : decode cX12_usual 26 = .ok (.if_icmp .ne 7, 3) := by decide +kernel
theorem dX12_usual_29 : decode cX12_usual 29 = .ok (.iconst 3, 1) := by decide +kernel
theorem dX12_usual_30 : decode cX12_usual 30 = .ok (.goto 5, 3) := by decide +kernel
theorem dX12_usual_33 : decode cX12_usual 33 = .ok (.bipush 20, 2) := by decide +kernel
theorem dX12_usual_35 : decode cX12_usual 35 = .ok (.ireturn, 1) := by decide +kernel
theorem dX12_usual_36 : decode cX12_usual 36 = .ok (.iload_n 1, 1) := by decide +kernel
theorem dX12_usual_37 : decode cX12_usual 37 = .ok (.ifCond .ne 8, 3) := by decide +kernel
theorem dX12_usual_40 : decode cX12_usual 40 = .ok (.bipush 6, 2) := by decide +kernel
theorem dX12_usual_42 : decode cX12_usual 42 = .ok (.goto 4, 3) := by decide +kernel
theorem dX12_usual_45 : decode cX12_usual 45 = .ok (.iconst 1, 1) := by decide +kernel
theorem dX12_usual_46 : decode cX12_usual 46 = .ok (.ireturn, 1) := by decide +kernel
set_option maxRecDepth 20000 in
def kX12_usual_0 (g : sk_G) (d ck sk : Nat) (Q : sk_P) : sk_K := o_iload 0 (o_i (115) (o_icne (o_iload 1 (o_ifne (o_i (1) (o_iret (g, d, ck, sk, xX12_usual, Q))) (o_i (6) (o_iret (g, d, ck, sk, xX12_usual, Q))))) (o_iload 1 (o_ifne (o_iload 1 (o_i (1) (o_icne (o_iload 1 (o_i (2) (o_icne (o_i (20) (o_iret (g, d, ck, sk, xX12_usual, Q))) (o_i (3) (o_iret (g, d, ck, sk, xX12_usual, Q)))))) (o_i (4) (o_iret (g, d, ck, sk, xX12_usual, Q)))))) (o_i (6) (o_iret (g, d, ck, sk, xX12_usual, Q)))))))
set_option maxRecDepth 20000 in
theorem tX12_usual_0 {g : sk_G} {d ck sk : Nat} {Q : sk_P} : sk_S (g, d, ck, sk, xX12_usual, Q) 0 (kX12_usual_0 g d ck sk Q) := s_iload_n dX12_usual_0 rfl (s_bipush dX12_usual_1 rfl (s_icne (tgt := 36) dX12_usual_3 (by decide) (s_iload_n dX12_usual_36 rfl (s_ifne (tgt := 45) dX12_usual_37 (by decide) (s_iconst dX12_usual_45 (s_iret dX12_usual_46 rfl)) (s_bipush dX12_usual_40 rfl (s_goto (tgt := 46) dX12_usual_42 (by decide) (s_iret dX12_usual_46 rfl))))) (s_iload_n dX12_usual_6 rfl (s_ifne (tgt := 15) dX12_usual_7 (by decide) (s_iload_n dX12_usual_15 rfl (s_iconst dX12_usual_16 (s_icne (tgt := 24) dX12_usual_17 (by decide) (s_iload_n dX12_usual_24 rfl (s_iconst dX12_usual_25 (s_icne (tgt := 33) dX12_usual_26 (by decide) (s_bipush dX12_usual_33 rfl (s_iret dX12_usual_35 rfl)) (s_iconst dX12_usual_29 (s_goto (tgt := 35) dX12_usual_30 (by decide) (s_iret dX12_usual_35 rfl)))))) (s_iconst dX12_usual_20 (s_goto (tgt := 35) dX12_usual_21 (by decide) (s_iret dX12_usual_35 rfl)))))) (s_bipush dX12_usual_10 rfl (s_goto (tgt := 35) dX12_usual_12 (by decide) (s_iret dX12_usual_35 rfl)))))))
theorem dX12_look_0 : decode cX12_look 0 = .ok (.aload_n 0, 1) := by decide +kernel
theorem dX12_look_1 : decode cX12_look 1 = .ok (.invokevirtual 122, 3) := by decide +kernel
theorem dX12_look_4 : decode cX12_look 4 = .ok (.bipush 32, 2) := by decide +kernel
theorem dX12_look_6 : decode cX12_look 6 = .ok (.if_icmp .ne 16, 3) := by decide +kernel
theorem dX12_look_9 : decode cX12_look 9 = .ok (.aload_n 0, 1) := by decide +kernel
theorem dX12_look_10 : decode cX12_look 10 = .ok (.dup, 1) := by decide +kernel
theorem dX12_look_11 : decode cX12_look 11 = .ok (.getfield 119, 3) := by decide +kernel
theorem dX12_look_14 : decode cX12_look 14 = .ok (.iconst 1, 1) := by decide +kernel
theorem dX12_look_15 : decode cX12_look 15 = .ok (.iadd, 1) := by decide +kernel
theorem dX12_look_16 : decode cX12_look 16 = .ok (.putfield 119, 3) := by decide +kernel
theorem dX12_look_19 : decode cX12_look 19 = .ok (.goto (-19), 3) := by decide +kernel
theorem dX12_look_22 : decode cX12_look 22 = .ok (.aload_n 0, 1) := by decide +kernel
theorem dX12_look_23 : decode cX12_look 23 = .ok (.invokevirtual 122, 3) := by decide +kernel
theorem dX12_look_26 : decode cX12_look 26 = .ok (.ireturn, 1) := by decide +kernel
set_option maxRecDepth 20000 in
def kX12_look_0 (g : sk_G) (d ck sk : Nat) (Q : sk_P) : sk_K := o_aload 0 (o_invB (g, d, ck, sk, xX12_look, Q) xX12_here 0 12 0 0 (o_i (32) (o_icne (o_aload 0 (o_invB (g, d, ck, sk, xX12_look, Q) xX12_here 0 12 0 0 (o_iret (g, d, ck, sk, xX12_look, Q)))) (o_aload 0 (o_dup (o_getf 12 3 (o_i (1) (o_iadd (o_puti 12 3 (sk_B (g, d, ck, sk, xX12_look, Q) 0))))))))))
set_option maxRecDepth 20000 in
theorem tX12_look_0 {g : sk_G} {d ck sk : Nat} {Q : sk_P} : sk_S (g, d, ck, sk, xX12_look, Q) 0 (kX12_look_0 g d ck sk Q) := s_aload_n dX12_look_0 rfl (s_invB (w' := (g, d, ck, sk, xX12_look, Q)) (ci := 12) (ck := 0) (sk := 0) (T := TX12) (N := 49) dX12_look_1 m_X12_here rfl (by decide) qm_X12_122 qi_X12_here qe_X12_here rfl (s_bipush dX12_look_4 rfl (s_icne (tgt := 22) dX12_look_6 (by decide) (s_aload_n dX12_look_22 rfl (s_invB (w' := (g, d, ck, sk, xX12_look, Q)) (ci := 12) (ck := 0) (sk := 0) (T := TX12) (N := 49) dX12_look_23 m_X12_here rfl (by decide) qm_X12_122 qi_X12_here qe_X12_here rfl (s_iret dX12_look_26 rfl))) (s_aload_n dX12_look_9 rfl (s_dup dX12_look_10 (s_getf (ci := 12) (j := 3) (C := RX12) (T := TX12) (N := 49) dX12_look_11 rfl (by decide) (by decide) qf_X12_119 (s_iconst dX12_look_14 (s_iadd dX12_look_15 (s_puti (ci := 12) (j := 3) (C := RX12) (T := TX12) (N := 49) dX12_look_16 rfl (by decide) (by decide) rfl (tyX12_ok 3 (by decide)) qf_X12_119 (s_goto (tgt := 0) dX12_look_19 (by decide) (sk_id)))))))))))
theorem dX12_here_0 : decode cX12_here 0 = .ok (.aload_n 0, 1) := by decide +kernel
theorem dX12_here_1 : decode cX12_here 1 = .ok (.getfield 119, 3) := by decide +kernel
theorem dX12_here_4 : decode cX12_here 4 = .ok (.aload_n 0, 1) := by decide +kernel
theorem dX12_here_5 : decode cX12_here 5 = .ok (.getfield 116, 3) := by decide +kernel
theorem dX12_here_8 : decode cX12_here 8 = .ok (.if_icmp .ge 15, 3) := by decide +kernel
theorem dX12_here_11 : decode cX12_here 11 = .ok (.aload_n 0, 1) := by decide +kernel
theorem dX12_here_12 : decode cX12_here 12 = .ok (.getfield 9, 3) := by decide +kernel
theorem dX12_here_15 : decode cX12_here 15 = .ok (.aload_n 0, 1) := by decide +kernel
theorem dX12_here_16 : decode cX12_here 16 = .ok (.getfield 119, 3) := by decide +kernel
theorem dX12_here_19 : decode cX12_here 19 = .ok (.iaload, 1) := by decide +kernel
theorem dX12_here_20 : decode cX12_here 20 = .ok (.goto 4, 3) := by decide +kernel
theorem dX12_here_23 : decode cX12_here 23 = .ok (.iconst (-1), 1) := by decide +kernel
theorem dX12_here_24 : decode cX12_here 24 = .ok (.ireturn, 1) := by decide +kernel
set_option maxRecDepth 20000 in
def kX12_here_0 (g : sk_G) (d ck sk : Nat) (Q : sk_P) : sk_K := o_aload 0 (o_getf 12 3 (o_aload 0 (o_getf 12 2 (o_icge (o_i (-1) (o_iret (g, d, ck, sk, xX12_here, Q))) (o_aload 0 (o_getf 12 1 (o_aload 0 (o_getf 12 3 (o_iaload (o_iret (g, d, ck, sk, xX12_here, Q)))))))))))
set_option maxRecDepth 20000 in
theorem tX12_here_0 {g : sk_G} {d ck sk : Nat} {Q : sk_P} : sk_S (g, d, ck, sk, xX12_here, Q) 0 (kX12_here_0 g d ck sk Q) := s_aload_n dX12_here_0 rfl (s_getf (ci := 12) (j := 3) (C := RX12) (T := TX12) (N := 49) dX12_here_1 rfl (by decide) (by decide) qf_X12_119 (s_aload_n dX12_here_4 rfl (s_getf (ci := 12) (j := 2) (C := RX12) (T := TX12) (N := 49) dX12_here_5 rfl (by decide) (by decide) qf_X12_116 (s_icge (tgt := 23) dX12_here_8 (by decide) (s_iconst dX12_here_23 (s_iret dX12_here_24 rfl)) (s_aload_n dX12_here_11 rfl (s_getf (ci := 12) (j := 1) (C := RX12) (T := TX12) (N := 49) dX12_here_12 rfl (by decide) (by decide) qf_X12_9 (s_aload_n dX12_here_15 rfl (s_getf (ci := 12) (j := 3) (C := RX12) (T := TX12) (N := 49) dX12_here_16 rfl (by decide) (by decide) qf_X12_119 (s_iaload dX12_here_19 (s_goto (tgt := 24) dX12_here_20 (by decide) (s_iret dX12_here_24 rfl)))))))))))
theorem dX12_items_0 : decode cX12_items 0 = .ok (.iconst 0, 1) := by decide +kernel
theorem dX12_items_1 : decode cX12_items 1 = .ok (.istore 5, 2) := by decide +kernel
theorem dX12_items_3 : decode cX12_items 3 = .ok (.iload 5, 2) := by decide +kernel
theorem dX12_items_5 : decode cX12_items 5 = .ok (.iload 4, 2) := by decide +kernel
theorem dX12_items_7 : decode cX12_items 7 = .ok (.if_icmp .ge 21, 3) := by decide +kernel
theorem dX12_items_10 : decode cX12_items 10 = .ok (.aload_n 2, 1) := by decide +kernel
theorem dX12_items_11 : decode cX12_items 11 = .ok (.iload_n 3, 1) := by decide +kernel
theorem dX12_items_12 : decode cX12_items 12 = .ok (.iload 5, 2) := by decide +kernel
theorem dX12_items_14 : decode cX12_items 14 = .ok (.iadd, 1) := by decide +kernel
theorem dX12_items_15 : decode cX12_items 15 = .ok (.iload_n 1, 1) := by decide +kernel
theorem dX12_items_16 : decode cX12_items 16 = .ok (.iload 5, 2) := by decide +kernel
theorem dX12_items_18 : decode cX12_items 18 = .ok (.invokestatic 228, 3) := by decide +kernel
theorem dX12_items_21 : decode cX12_items 21 = .ok (.iastore, 1) := by decide +kernel
theorem dX12_items_22 : decode cX12_items 22 = .ok (.iinc 5 1, 3) := by decide +kernel
theorem dX12_items_25 : decode cX12_items 25 = .ok (.goto (-22), 3) := by decide +kernel
theorem dX12_items_28 : decode cX12_items 28 = .ok (.iconst 0, 1) := by decide +kernel
theorem dX12_items_29 : decode cX12_items 29 = .ok (.istore 5, 2) := by decide +kernel
theorem dX12_items_31 : decode cX12_items 31 = .ok (.iload_n 1, 1) := by decide +kernel
theorem dX12_items_32 : decode cX12_items 32 = .ok (.aload_n 0, 1) := by decide +kernel
theorem dX12_items_33 : decode cX12_items 33 = .ok (.invokevirtual 138, 3) := by decide +kernel
theorem dX12_items_36 : decode cX12_items 36 = .ok (.invokestatic 232, 3) := by decide +kernel
theorem dX12_items_39 : decode cX12_items 39 = .ok (.istore 6, 2) := by decide +kernel
theorem dX12_items_41 : decode cX12_items 41 = .ok (.aload_n 0, 1) := by decide +kernel
theorem dX12_items_42 : decode cX12_items 42 = .ok (.getfield 126, 3) := by decide +kernel
theorem dX12_items_45 : decode cX12_items 45 = .ok (.iconst (-1), 1) := by decide +kernel
theorem dX12_items_46 : decode cX12_items 46 = .ok (.if_icmp .ne 85, 3) := by decide +kernel
theorem dX12_items_49 : decode cX12_items 49 = .ok (.iload 6, 2) := by decide +kernel
theorem dX12_items_51 : decode cX12_items 51 = .ok (.iconst (-1), 1) := by decide +kernel
theorem dX12_items_52 : decode cX12_items 52 = .ok (.if_icmp .eq 79, 3) := by decide +kernel
theorem dX12_items_55 : decode cX12_items 55 = .ok (.iload 5, 2) := by decide +kernel
theorem dX12_items_57 : decode cX12_items 57 = .ok (.iload 6, 2) := by decide +kernel
theorem dX12_items_59 : decode cX12_items 59 = .ok (.invokestatic 235, 3) := by decide +kernel
theorem dX12_items_62 : decode cX12_items 62 = .ok (.ifCond .ne 69, 3) := by decide +kernel
theorem dX12_items_65 : decode cX12_items 65 = .ok (.iload 5, 2) := by decide +kernel
theorem dX12_items_67 : decode cX12_items 67 = .ok (.iconst 1, 1) := by decide +kernel
theorem dX12_items_68 : decode cX12_items 68 = .ok (.iload 6, 2) := by decide +kernel
theorem dX12_items_70 : decode cX12_items 70 = .ok (.ishl, 1) := by decide +kernel
theorem dX12_items_71 : decode cX12_items 71 = .ok (.ior, 1) := by decide +kernel
theorem dX12_items_72 : decode cX12_items 72 = .ok (.istore 5, 2) := by decide +kernel
theorem dX12_items_74 : decode cX12_items 74 = .ok (.aload_n 0, 1) := by decide +kernel
theorem dX12_items_75 : decode cX12_items 75 = .ok (.dup, 1) := by decide +kernel
theorem dX12_items_76 : decode cX12_items 76 = .ok (.getfield 119, 3) := by decide +kernel
theorem dX12_items_79 : decode cX12_items 79 = .ok (.iconst 1, 1) := by decide +kernel
theorem dX12_items_80 : decode cX12_items 80 = .ok (.iadd, 1) := by decide +kernel
theorem dX12_items_81 : decode cX12_items 81 = .ok (.putfield 119, 3) := by decide +kernel
theorem dX12_items_84 : decode cX12_items 84 = .ok (.aload_n 2, 1) := by decide +kernel
theorem dX12_items_85 : decode cX12_items 85 = .ok (.iload_n 3, 1) := by decide +kernel
theorem dX12_items_86 : decode cX12_items 86 = .ok (.iload 6, 2) := by decide +kernel
theorem dX12_items_88 : decode cX12_items 88 = .ok (.iadd, 1) := by decide +kernel
theorem dX12_items_89 : decode cX12_items 89 = .ok (.aload_n 0, 1) := by decide +kernel
theorem dX12_items_90 : decode cX12_items 90 = .ok (.iload_n 1, 1) := by decide +kernel
theorem dX12_items_91 : decode cX12_items 91 = .ok (.iload 6, 2) := by decide +kernel
theorem dX12_items_93 : decode cX12_items 93 = .ok (.invokestatic 239, 3) := by decide +kernel
theorem dX12_items_96 : decode cX12_items 96 = .ok (.iload_n 1, 1) := by decide +kernel
theorem dX12_items_97 : decode cX12_items 97 = .ok (.iload 6, 2) := by decide +kernel
theorem dX12_items_99 : decode cX12_items 99 = .ok (.invokestatic 242, 3) := by decide +kernel
theorem dX12_items_102 : decode cX12_items 102 = .ok (.invokevirtual 245, 3) := by decide +kernel
theorem dX12_items_105 : decode cX12_items 105 = .ok (.iastore, 1) := by decide +kernel
theorem dX12_items_106 : decode cX12_items 106 = .ok (.aload_n 0, 1) := by decide +kernel
theorem dX12_items_107 : decode cX12_items 107 = .ok (.getfield 126, 3) := by decide +kernel
theorem dX12_items_110 : decode cX12_items 110 = .ok (.iconst (-1), 1) := by decide +kernel
theorem dX12_items_111 : decode cX12_items 111 = .ok (.if_icmp .ne 14, 3) := by decide +kernel
theorem dX12_items_114 : decode cX12_items 114 = .ok (.iload_n 1, 1) := by decide +kernel
theorem dX12_items_115 : decode cX12_items 115 = .ok (.aload_n 0, 1) := by decide +kernel
theorem dX12_items_116 : decode cX12_items 116 = .ok (.invokevirtual 138, 3) := by decide +kernel
theorem dX12_items_119 : decode cX12_items 119 = .ok (.invokestatic 232, 3) := by decide +kernel
theorem dX12_items_122 : decode cX12_items 122 = .ok (.goto 4, 3) := by decide +kernel
theorem dX12_items_125 : decode cX12_items 125 = .ok (.iconst (-1), 1) := by decide +kernel
theorem dX12_items_126 : decode cX12_items 126 = .ok (.istore 6, 2) := by decide +kernel
theorem dX12_items_128 : decode cX12_items 128 = .ok (.goto (-87), 3) := by decide +kernel
theorem dX12_items_131 : decode cX12_items 131 = .ok (.return_, 1) := by decide +kernel
def kX12_items_0 (g : sk_G) (d ck sk : Nat) (Q : sk_P) : sk_K := o_i (0) (o_istore 5 (sk_B (g, d, ck, sk, xX12_items, Q) 3))
theorem tX12_items_0 {g : sk_G} {d ck sk : Nat} {Q : sk_P} : sk_S (g, d, ck, sk, xX12_items, Q) 0 (kX12_items_0 g d ck sk Q) := s_iconst dX12_items_0 (s_istore dX12_items_1 (by decide : 5 < 7) (sk_id))
set_option maxRecDepth 20000 in
def kX12_items_3 (g : sk_G) (d ck sk : Nat) (Q : sk_P) : sk_K := o_iload 5 (o_iload 4 (o_icge (o_i (0) (o_istore 5 (o_iload 1 (o_aload 0 (o_invB (g, d, ck, sk, xX12_items, Q) xX12_look 0 12 0 0 (o_stcB (g, d, ck, sk, xX12_items, Q) xX12_itemOf 2 0 0 (o_istore 6 (sk_B (g, d, ck, sk, xX12_items, Q) 41)))))))) (o_aload 2 (o_iload 3 (o_iload 5 (o_iadd (o_iload 1 (o_iload 5 (o_stcB (g, d, ck, sk, xX12_items, Q) xX12_usual 2 0 0 (o_iastore (o_iinc 5 (1) (sk_B (g, d, ck, sk, xX12_items, Q) 3))))))))))))
set_option maxRecDepth 20000 in
theorem tX12_items_3 {g : sk_G} {d ck sk : Nat} {Q : sk_P} : sk_S (g, d, ck, sk, xX12_items, Q) 3 (kX12_items_3 g d ck sk Q) := s_iload dX12_items_3 (s_iload dX12_items_5 (s_icge (tgt := 28) dX12_items_7 (by decide) (s_iconst dX12_items_28 (s_istore dX12_items_29 (by decide : 5 < 7) (s_iload_n dX12_items_31 rfl (s_aload_n dX12_items_32 rfl (s_invB (w' := (g, d, ck, sk, xX12_items, Q)) (ci := 12) (ck := 0) (sk := 0) (T := TX12) (N := 49) dX12_items_33 m_X12_look rfl (by decide) qm_X12_138 qi_X12_look qe_X12_look rfl (s_stcB (w' := (g, d, ck, sk, xX12_items, Q)) (ck := 0) (sk := 0) dX12_items_36 m_X12_itemOf qm_X12_232 qs_X12_itemOf rfl (s_istore dX12_items_39 (by decide : 6 < 7) (sk_id)))))))) (s_aload_n dX12_items_10 rfl (s_iload_n dX12_items_11 rfl (s_iload dX12_items_12 (s_iadd dX12_items_14 (s_iload_n dX12_items_15 rfl (s_iload dX12_items_16 (s_stcB (w' := (g, d, ck, sk, xX12_items, Q)) (ck := 0) (sk := 0) dX12_items_18 m_X12_usual qm_X12_228 qs_X12_usual rfl (s_iastore dX12_items_21 (s_iinc dX12_items_22 (by decide : 5 < 7) (s_goto (tgt := 3) dX12_items_25 (by decide) (sk_id)))))))))))))
set_option maxRecDepth 20000 in
def kX12_items_41 (g : sk_G) (d ck sk : Nat) (Q : sk_P) : sk_K := o_aload 0 (o_getf 12 4 (o_i (-1) (o_icne (o_ret (g, d, ck, sk, xX12_items, Q)) (o_iload 6 (o_i (-1) (o_iceq (o_ret (g, d, ck, sk, xX12_items, Q)) (o_iload 5 (o_iload 6 (o_stcB (g, d, ck, sk, xX12_items, Q) xX12_has 2 0 0 (o_ifne (o_ret (g, d, ck, sk, xX12_items, Q)) (o_iload 5 (o_i (1) (o_iload 6 (o_ishl (o_ior (o_istore 5 (o_aload 0 (o_dup (o_getf 12 3 (o_i (1) (o_iadd (o_puti 12 3 (o_aload 2 (o_iload 3 (o_iload 6 (o_iadd (o_aload 0 (o_iload 1 (o_iload 6 (o_stcB (g, d, ck, sk, xX12_items, Q) xX12_lowest 2 0 0 (o_iload 1 (o_iload 6 (o_stcB (g, d, ck, sk, xX12_items, Q) xX12_highest 2 0 0 (o_invB (g, d, ck, sk, xX12_items, Q) xX12_number 2 12 0 0 (o_iastore (o_aload 0 (o_getf 12 4 (o_i (-1) (o_icne (o_i (-1) (o_istore 6 (sk_B (g, d, ck, sk, xX12_items, Q) 41))) (o_iload 1 (o_aload 0 (o_invB (g, d, ck, sk, xX12_items, Q) xX12_look 0 12 0 0 (o_stcB (g, d, ck, sk, xX12_items, Q) xX12_itemOf 2 0 0 (o_istore 6 (sk_B (g, d, ck, sk, xX12_items, Q) 41)))))))))))))))))))))))))))))))))))))))))))))
set_option maxRecDepth 20000 in
theorem tX12_items_41 {g : sk_G} {d ck sk : Nat} {Q : sk_P} : sk_S (g, d, ck, sk, xX12_items, Q) 41 (kX12_items_41 g d ck sk Q) := s_aload_n dX12_items_41 rfl (s_getf (ci := 12) (j := 4) (C := RX12) (T := TX12) (N := 49) dX12_items_42 rfl (by decide) (by decide) qf_X12_126 (s_iconst dX12_items_45 (s_icne (tgt := 131) dX12_items_46 (by decide) (s_ret dX12_items_131 rfl) (s_iload dX12_items_49 (s_iconst dX12_items_51 (s_iceq (tgt := 131) dX12_items_52 (by decide) (s_ret dX12_items_131 rfl) (s_iload dX12_items_55 (s_iload dX12_items_57 (s_stcB (w' := (g, d, ck, sk, xX12_items, Q)) (ck := 0) (sk := 0) dX12_items_59 m_X12_has qm_X12_235 qs_X12_has rfl (s_ifne (tgt := 131) dX12_items_62 (by decide) (s_ret dX12_items_131 rfl) (s_iload dX12_items_65 (s_iconst dX12_items_67 (s_iload dX12_items_68 (s_ishl dX12_items_70 (s_ior dX12_items_71 (s_istore dX12_items_72 (by decide : 5 < 7) (s_aload_n dX12_items_74 rfl (s_dup dX12_items_75 (s_getf (ci := 12) (j := 3) (C := RX12) (T := TX12) (N := 49) dX12_items_76 rfl (by decide) (by decide) qf_X12_119 (s_iconst dX12_items_79 (s_iadd dX12_items_80 (s_puti (ci := 12) (j := 3) (C := RX12) (T := TX12) (N := 49) dX12_items_81 rfl (by decide) (by decide) rfl (tyX12_ok 3 (by decide)) qf_X12_119 (s_aload_n dX12_items_84 rfl (s_iload_n dX12_items_85 rfl (s_iload dX12_items_86 (s_iadd dX12_items_88 (s_aload_n dX12_items_89 rfl (s_iload_n dX12_items_90 rfl (s_iload dX12_items_91 (s_stcB (w' := (g, d, ck, sk, xX12_items, Q)) (ck := 0) (sk := 0) dX12_items_93 m_X12_lowest qm_X12_239 qs_X12_lowest rfl (s_iload_n dX12_items_96 rfl (s_iload dX12_items_97 (s_stcB (w' := (g, d, ck, sk, xX12_items, Q)) (ck := 0) (sk := 0) dX12_items_99 m_X12_highest qm_X12_242 qs_X12_highest rfl (s_invB (w' := (g, d, ck, sk, xX12_items, Q)) (ci := 12) (ck := 0) (sk := 0) (T := TX12) (N := 49) dX12_items_102 m_X12_number rfl (by decide) qm_X12_245 qi_X12_number qe_X12_number rfl (s_iastore dX12_items_105 (s_aload_n dX12_items_106 rfl (s_getf (ci := 12) (j := 4) (C := RX12) (T := TX12) (N := 49) dX12_items_107 rfl (by decide) (by decide) qf_X12_126 (s_iconst dX12_items_110 (s_icne (tgt := 125) dX12_items_111 (by decide) (s_iconst dX12_items_125 (s_istore dX12_items_126 (by decide : 6 < 7) (s_goto (tgt := 41) dX12_items_128 (by decide) (sk_id)))) (s_iload_n dX12_items_114 rfl (s_aload_n dX12_items_115 rfl (s_invB (w' := (g, d, ck, sk, xX12_items, Q)) (ci := 12) (ck := 0) (sk := 0) (T := TX12) (N := 49) dX12_items_116 m_X12_look rfl (by decide) qm_X12_138 qi_X12_look qe_X12_look rfl (s_stcB (w' := (g, d, ck, sk, xX12_items, Q)) (ck := 0) (sk := 0) dX12_items_119 m_X12_itemOf qm_X12_232 qs_X12_itemOf rfl (s_goto (tgt := 126) dX12_items_122 (by decide) (s_istore dX12_items_126 (by decide : 6 < 7) (s_goto (tgt := 41) dX12_items_128 (by decide) (sk_id)))))))))))))))))))))))))))))))))))))))))))))))
theorem dX12_itemOf_0 : decode cX12_itemOf 0 = .ok (.iload_n 0, 1) := by decide +kernel
theorem dX12_itemOf_1 : decode cX12_itemOf 1 = .ok (.bipush 115, 2) := by decide +kernel
theorem dX12_itemOf_3 : decode cX12_itemOf 3 = .ok (.if_icmp .ne 45, 3) := by decide +kernel
theorem dX12_itemOf_6 : decode cX12_itemOf 6 = .ok (.iload_n 1, 1) := by decide +kernel
theorem dX12_itemOf_7 : decode cX12_itemOf 7 = .ok (.bipush 119, 2) := by decide +kernel
theorem dX12_itemOf_9 : decode cX12_itemOf 9 = .ok (.if_icmp .ne 7, 3) := by decide +kernel
theorem dX12_itemOf_12 : decode cX12_itemOf 12 = .ok (.iconst 0, 1) := by decide +kernel
theorem dX12_itemOf_13 : decode cX12_itemOf 13 = .ok (.goto 34, 3) := by decide +kernel
theorem dX12_itemOf_16 : decode cX12_itemOf 16 = .ok (.iload_n 1, 1) := by decide +kernel
theorem dX12_itemOf_17 : decode cX12_itemOf 17 = .ok (.bipush 114, 2) := by decide +kernel
theorem dX12_itemOf_19 : decode cX12_itemOf 19 = .ok (.if_icmp .ne 7, 3) := by decide +kernel
theorem dX12_itemOf_22 : decode cX12_itemOf 22 = .ok (.iconst 1, 1) := by decide +kernel
theorem dX12_itemOf_23 : decode cX12_itemOf 23 = .ok (.goto 24, 3) := by decide +kernel
theorem dX12_itemOf_26 : decode cX12_itemOf 26 = .ok (.iload_n 1, 1) := by decide +kernel
theorem dX12_itemOf_27 : decode cX12_itemOf 27 = .ok (.bipush 108, 2) := by decide +kernel
theorem dX12_itemOf_29 : decode cX12_itemOf 29 = .ok (.if_icmp .ne 7, 3) := by decide +kernel
theorem dX12_itemOf_32 : decode cX12_itemOf 32 = .ok (.iconst 2, 1) := by decide +kernel
theorem dX12_itemOf_33 : decode cX12_itemOf 33 = .ok (.goto 14, 3) := by decide +kernel
theorem dX12_itemOf_36 : decode cX12_itemOf 36 = .ok (.iload_n 1, 1) := by decide +kernel
theorem dX12_itemOf_37 : decode cX12_itemOf 37 = .ok (.bipush 107, 2) := by decide +kernel
theorem dX12_itemOf_39 : decode cX12_itemOf 39 = .ok (.if_icmp .ne 7, 3) := by decide +kernel
theorem dX12_itemOf_42 : decode cX12_itemOf 42 = .ok (.iconst 3, 1) := by decide +kernel
theorem dX12_itemOf_43 : decode cX12_itemOf 43 = .ok (.goto 4, 3) := by decide +kernel
theorem dX12_itemOf_46 : decode cX12_itemOf 46 = .ok (.iconst (-1), 1) := by decide +kernel
theorem dX12_itemOf_47 : decode cX12_itemOf 47 = .ok (.ireturn, 1) := by decide +kernel
theorem dX12_itemOf_48 : decode cX12_itemOf 48 = .ok (.iload_n 1, 1) := by decide +kernel
theorem dX12_itemOf_49 : decode cX12_itemOf 49 = .ok (.bipush 105, 2) := by decide +kernel
theorem dX12_itemOf_51 : decode cX12_itemOf 51 = .ok (.if_icmp .ne 7, 3) := by decide +kernel
theorem dX12_itemOf_54 : decode cX12_itemOf 54 = .ok (.iconst 0, 1) := by decide +kernel
theorem dX12_itemOf_55 : decode cX12_itemOf 55 = .ok (.goto 14, 3) := by decide +kernel
theorem dX12_itemOf_58 : decode cX12_itemOf 58 = .ok (.iload_n 1, 1) := by decide +kernel
theorem dX12_itemOf_59 : decode cX12_itemOf 59 = .ok (.bipush 102, 2) := by decide +kernel
theorem dX12_itemOf_61 : decode cX12_itemOf 61 = .ok (.if_icmp .ne 7, 3) := by decide +kernel
theorem dX12_itemOf_64 : decode cX12_itemOf 64 = .ok (.iconst 1, 1) := by decide +kernel
theorem dX12_itemOf_65 : decode cX12_itemOf 65 = .ok (.goto 4, 3) := by decide +kernel
theorem dX12_itemOf_68 : decode cX12_itemOf 68 = .ok (.iconst (-1), 1) := by decide +kernel
theorem dX12_itemOf_69 : decode cX12_itemOf 69 = .ok (.ireturn, 1) := by decide +kernel
set_option maxRecDepth 20000 in
def kX12_itemOf_0 (g : sk_G) (d ck sk : Nat) (Q : sk_P) : sk_K := o_iload 0 (o_i (115) (o_icne (o_iload 1 (o_i (105) (o_icne (o_iload 1 (o_i (102) (o_icne (o_i (-1) (o_iret (g, d, ck, sk, xX12_itemOf, Q))) (o_i (1) (o_iret (g, d, ck, sk, xX12_itemOf, Q)))))) (o_i (0) (o_iret (g, d, ck, sk, xX12_itemOf, Q)))))) (o_iload 1 (o_i (119) (o_icne (o_iload 1 (o_i (114) (o_icne (o_iload 1 (o_i (108) (o_icne (o_iload 1 (o_i (107) (o_icne (o_i (-1) (o_iret (g, d, ck, sk, xX12_itemOf, Q))) (o_i (3) (o_iret (g, d, ck, sk, xX12_itemOf, Q)))))) (o_i (2) (o_iret (g, d, ck, sk, xX12_itemOf, Q)))))) (o_i (1) (o_iret (g, d, ck, sk, xX12_itemOf, Q)))))) (o_i (0) (o_iret (g, d, ck, sk, xX12_itemOf, Q))))))))
set_option maxRecDepth 20000 in
theorem tX12_itemOf_0 {g : sk_G} {d ck sk : Nat} {Q : sk_P} : sk_S (g, d, ck, sk, xX12_itemOf, Q) 0 (kX12_itemOf_0 g d ck sk Q) := s_iload_n dX12_itemOf_0 rfl (s_bipush dX12_itemOf_1 rfl (s_icne (tgt := 48) dX12_itemOf_3 (by decide) (s_iload_n dX12_itemOf_48 rfl (s_bipush dX12_itemOf_49 rfl (s_icne (tgt := 58) dX12_itemOf_51 (by decide) (s_iload_n dX12_itemOf_58 rfl (s_bipush dX12_itemOf_59 rfl (s_icne (tgt := 68) dX12_itemOf_61 (by decide) (s_iconst dX12_itemOf_68 (s_iret dX12_itemOf_69 rfl)) (s_iconst dX12_itemOf_64 (s_goto (tgt := 69) dX12_itemOf_65 (by decide) (s_iret dX12_itemOf_69 rfl)))))) (s_iconst dX12_itemOf_54 (s_goto (tgt := 69) dX12_itemOf_55 (by decide) (s_iret dX12_itemOf_69 rfl)))))) (s_iload_n dX12_itemOf_6 rfl (s_bipush dX12_itemOf_7 rfl (s_icne (tgt := 16) dX12_itemOf_9 (by decide) (s_iload_n dX12_itemOf_16 rfl (s_bipush dX12_itemOf_17 rfl (s_icne (tgt := 26) dX12_itemOf_19 (by decide) (s_iload_n dX12_itemOf_26 rfl (s_bipush dX12_itemOf_27 rfl (s_icne (tgt := 36) dX12_itemOf_29 (by decide) (s_iload_n dX12_itemOf_36 rfl (s_bipush dX12_itemOf_37 rfl (s_icne (tgt := 46) dX12_itemOf_39 (by decide) (s_iconst dX12_itemOf_46 (s_iret dX12_itemOf_47 rfl)) (s_iconst dX12_itemOf_42 (s_goto (tgt := 47) dX12_itemOf_43 (by decide) (s_iret dX12_itemOf_47 rfl)))))) (s_iconst dX12_itemOf_32 (s_goto (tgt := 47) dX12_itemOf_33 (by decide) (s_iret dX12_itemOf_47 rfl)))))) (s_iconst dX12_itemOf_22 (s_goto (tgt := 47) dX12_itemOf_23 (by decide) (s_iret dX12_itemOf_47 rfl)))))) (s_iconst dX12_itemOf_12 (s_goto (tgt := 47) dX12_itemOf_13 (by decide) (s_iret dX12_itemOf_47 rfl))))))))
theorem dX12_has_0 : decode cX12_has 0 = .ok (.iload_n 0, 1) := by decide +kernel
theorem dX12_has_1 : decode cX12_has 1 = .ok (.iload_n 1, 1) := by decide +kernel
theorem dX12_has_2 : decode cX12_has 2 = .ok (.ishr, 1) := by decide +kernel
theorem dX12_has_3 : decode cX12_has 3 = .ok (.iconst 1, 1) := by decide +kernel
theorem dX12_has_4 : decode cX12_has 4 = .ok (.iand, 1) := by decide +kernel
theorem dX12_has_5 : decode cX12_has 5 = .ok (.iconst 1, 1) := by decide +kernel
theorem dX12_has_6 : decode cX12_has 6 = .ok (.if_icmp .ne 7, 3) := by decide +kernel
theorem dX12_has_9 : decode cX12_has 9 = .ok (.iconst 1, 1) := by decide +kernel
theorem dX12_has_10 : decode cX12_has 10 = .ok (.goto 4, 3) := by decide +kernel
theorem dX12_has_13 : decode cX12_has 13 = .ok (.iconst 0, 1) := by decide +kernel
theorem dX12_has_14 : decode cX12_has 14 = .ok (.ireturn, 1) := by decide +kernel
def kX12_has_0 (g : sk_G) (d ck sk : Nat) (Q : sk_P) : sk_K := o_iload 0 (o_iload 1 (o_ishr (o_i (1) (o_iand (o_i (1) (o_icne (o_i (0) (o_zret (g, d, ck, sk, xX12_has, Q))) (o_i (1) (o_zret (g, d, ck, sk, xX12_has, Q)))))))))
theorem tX12_has_0 {g : sk_G} {d ck sk : Nat} {Q : sk_P} : sk_S (g, d, ck, sk, xX12_has, Q) 0 (kX12_has_0 g d ck sk Q) := s_iload_n dX12_has_0 rfl (s_iload_n dX12_has_1 rfl (s_ishr dX12_has_2 (s_iconst dX12_has_3 (s_iand dX12_has_4 (s_iconst dX12_has_5 (s_icne (tgt := 13) dX12_has_6 (by decide) (s_iconst dX12_has_13 (s_zret dX12_has_14 rfl)) (s_iconst dX12_has_9 (s_goto (tgt := 14) dX12_has_10 (by decide) (s_zret dX12_has_14 rfl)))))))))
theorem dX12_lowest_0 : decode cX12_lowest 0 = .ok (.iload_n 0, 1) := by decide +kernel
theorem dX12_lowest_1 : decode cX12_lowest 1 = .ok (.bipush 115, 2) := by decide +kernel
theorem dX12_lowest_3 : decode cX12_lowest 3 = .ok (.if_icmp .ne 22, 3) := by decide +kernel
theorem dX12_lowest_6 : decode cX12_lowest 6 = .ok (.iload_n 1, 1) := by decide +kernel
theorem dX12_lowest_7 : decode cX12_lowest 7 = .ok (.ifCond .ne 7, 3) := by decide +kernel
theorem dX12_lowest_10 : decode cX12_lowest 10 = .ok (.iconst 2, 1) := by decide +kernel
theorem dX12_lowest_11 : decode cX12_lowest 11 = .ok (.goto 13, 3) := by decide +kernel
theorem dX12_lowest_14 : decode cX12_lowest 14 = .ok (.iload_n 1, 1) := by decide +kernel
theorem dX12_lowest_15 : decode cX12_lowest 15 = .ok (.iconst 3, 1) := by decide +kernel
theorem dX12_lowest_16 : decode cX12_lowest 16 = .ok (.if_icmp .ne 7, 3) := by decide +kernel
theorem dX12_lowest_19 : decode cX12_lowest 19 = .ok (.iconst 0, 1) := by decide +kernel
theorem dX12_lowest_20 : decode cX12_lowest 20 = .ok (.goto 4, 3) := by decide +kernel
theorem dX12_lowest_23 : decode cX12_lowest 23 = .ok (.iconst 1, 1) := by decide +kernel
theorem dX12_lowest_24 : decode cX12_lowest 24 = .ok (.ireturn, 1) := by decide +kernel
theorem dX12_lowest_25 : decode cX12_lowest 25 = .ok (.iload_n 1, 1) := by decide +kernel
theorem dX12_lowest_26 : decode cX12_lowest 26 = .ok (.ifCond .ne 7, 3) := by decide +kernel
theorem dX12_lowest_29 : decode cX12_lowest 29 = .ok (.iconst 1, 1) := by decide +kernel
theorem dX12_lowest_30 : decode cX12_lowest 30 = .ok (.goto 4, 3) := by decide +kernel
theorem dX12_lowest_33 : decode cX12_lowest 33 = .ok (.iconst 0, 1) := by decide +kernel
theorem dX12_lowest_34 : decode cX12_lowest 34 = .ok (.ireturn, 1) := by decide +kernel
set_option maxRecDepth 20000 in
def kX12_lowest_0 (g : sk_G) (d ck sk : Nat) (Q : sk_P) : sk_K := o_iload 0 (o_i (115) (o_icne (o_iload 1 (o_ifne (o_i (0) (o_iret (g, d, ck, sk, xX12_lowest, Q))) (o_i (1) (o_iret (g, d, ck, sk, xX12_lowest, Q))))) (o_iload 1 (o_ifne (o_iload 1 (o_i (3) (o_icne (o_i (1) (o_iret (g, d, ck, sk, xX12_lowest, Q))) (o_i (0) (o_iret (g, d, ck, sk, xX12_lowest, Q)))))) (o_i (2) (o_iret (g, d, ck, sk, xX12_lowest, Q)))))))
set_option maxRecDepth 20000 in
theorem tX12_lowest_0 {g : sk_G} {d ck sk : Nat} {Q : sk_P} : sk_S (g, d, ck, sk, xX12_lowest, Q) 0 (kX12_lowest_0 g d ck sk Q) := s_iload_n dX12_lowest_0 rfl (s_bipush dX12_lowest_1 rfl (s_icne (tgt := 25) dX12_lowest_3 (by decide) (s_iload_n dX12_lowest_25 rfl (s_ifne (tgt := 33) dX12_lowest_26 (by decide) (s_iconst dX12_lowest_33 (s_iret dX12_lowest_34 rfl)) (s_iconst dX12_lowest_29 (s_goto (tgt := 34) dX12_lowest_30 (by decide) (s_iret dX12_lowest_34 rfl))))) (s_iload_n dX12_lowest_6 rfl (s_ifne (tgt := 14) dX12_lowest_7 (by decide) (s_iload_n dX12_lowest_14 rfl (s_iconst dX12_lowest_15 (s_icne (tgt := 23) dX12_lowest_16 (by decide) (s_iconst dX12_lowest_23 (s_iret dX12_lowest_24 rfl)) (s_iconst dX12_lowest_19 (s_goto (tgt := 24) dX12_lowest_20 (by decide) (s_iret dX12_lowest_24 rfl)))))) (s_iconst dX12_lowest_10 (s_goto (tgt := 24) dX12_lowest_11 (by decide) (s_iret dX12_lowest_24 rfl)))))))
theorem dX12_highest_0 : decode cX12_highest 0 = .ok (.iload_n 0, 1) := by decide +kernel
theorem dX12_highest_1 : decode cX12_highest 1 = .ok (.bipush 115, 2) := by decide +kernel
theorem dX12_highest_3 : decode cX12_highest 3 = .ok (.if_icmp .ne 34, 3) := by decide +kernel
theorem dX12_highest_6 : decode cX12_highest 6 = .ok (.iload_n 1, 1) := by decide +kernel
theorem dX12_highest_7 : decode cX12_highest 7 = .ok (.ifCond .ne 8, 3) := by decide +kernel
theorem dX12_highest_10 : decode cX12_highest 10 = .ok (.bipush 8, 2) := by decide +kernel
theorem dX12_highest_12 : decode cX12_highest 12 = .ok (.goto 24, 3) := by decide +kernel
theorem dX12_highest_15 : decode cX12_highest 15 = .ok (.iload_n 1, 1) := by decide +kernel
theorem dX12_highest_16 : decode cX12_highest 16 = .ok (.iconst 1, 1) := by decide +kernel
theorem dX12_highest_17 : decode cX12_highest 17 = .ok (.if_icmp .ne 7, 3) := by decide +kernel
theorem dX12_highest_20 : decode cX12_highest 20 = .ok (.iconst 5, 1) := by decide +kernel
theorem dX12_highest_21 : decode cX12_highest 21 = .ok (.goto 15, 3) := by decide +kernel
theorem dX12_highest_24 : decode cX12_highest 24 = .ok (.iload_n 1, 1) := by decide +kernel
theorem dX12_highest_25 : decode cX12_highest 25 = .ok (.iconst 2, 1) := by decide +kernel
theorem dX12_highest_26 : decode cX12_highest 26 = .ok (.if_icmp .ne 8, 3) := by decide +kernel
theorem dX12_highest_29 : decode cX12_highest 29 = .ok (.bipush 9, 2) := by decide +kernel
theorem dX12_highest_31 : decode cX12_highest 31 = .ok (.goto 5, 3) := by decide +kernel
theorem dX12_highest_34 : decode cX12_highest 34 = .ok (.bipush 99, 2) := by decide +kernel
theorem dX12_highest_36 : decode cX12_highest 36 = .ok (.ireturn, 1) := by decide +kernel
theorem dX12_highest_37 : decode cX12_highest 37 = .ok (.bipush 9, 2) := by decide +kernel
theorem dX12_highest_39 : decode cX12_highest 39 = .ok (.ireturn, 1) := by decide +kernel
set_option maxRecDepth 20000 in
def kX12_highest_0 (g : sk_G) (d ck sk : Nat) (Q : sk_P) : sk_K := o_iload 0 (o_i (115) (o_icne (o_i (9) (o_iret (g, d, ck, sk, xX12_highest, Q))) (o_iload 1 (o_ifne (o_iload 1 (o_i (1) (o_icne (o_iload 1 (o_i (2) (o_icne (o_i (99) (o_iret (g, d, ck, sk, xX12_highest, Q))) (o_i (9) (o_iret (g, d, ck, sk, xX12_highest, Q)))))) (o_i (5) (o_iret (g, d, ck, sk, xX12_highest, Q)))))) (o_i (8) (o_iret (g, d, ck, sk, xX12_highest, Q)))))))
set_option maxRecDepth 20000 in
theorem tX12_highest_0 {g : sk_G} {d ck sk : Nat} {Q : sk_P} : sk_S (g, d, ck, sk, xX12_highest, Q) 0 (kX12_highest_0 g d ck sk Q) := s_iload_n dX12_highest_0 rfl (s_bipush dX12_highest_1 rfl (s_icne (tgt := 37) dX12_highest_3 (by decide) (s_bipush dX12_highest_37 rfl (s_iret dX12_highest_39 rfl)) (s_iload_n dX12_highest_6 rfl (s_ifne (tgt := 15) dX12_highest_7 (by decide) (s_iload_n dX12_highest_15 rfl (s_iconst dX12_highest_16 (s_icne (tgt := 24) dX12_highest_17 (by decide) (s_iload_n dX12_highest_24 rfl (s_iconst dX12_highest_25 (s_icne (tgt := 34) dX12_highest_26 (by decide) (s_bipush dX12_highest_34 rfl (s_iret dX12_highest_36 rfl)) (s_bipush dX12_highest_29 rfl (s_goto (tgt := 36) dX12_highest_31 (by decide) (s_iret dX12_highest_36 rfl)))))) (s_iconst dX12_highest_20 (s_goto (tgt := 36) dX12_highest_21 (by decide) (s_iret dX12_highest_36 rfl)))))) (s_bipush dX12_highest_10 rfl (s_goto (tgt := 36) dX12_highest_12 (by decide) (s_iret dX12_highest_36 rfl)))))))
theorem dX12_number_0 : decode cX12_number 0 = .ok (.aload_n 0, 1) := by decide +kernel
theorem dX12_number_1 : decode cX12_number 1 = .ok (.invokevirtual 138, 3) := by decide +kernel
theorem dX12_number_4 : decode cX12_number 4 = .ok (.invokestatic 141, 3) := by decide +kernel
theorem dX12_number_7 : decode cX12_number 7 = .ok (.ifCond .ne 9, 3) := by decide +kernel
theorem dX12_number_10 : decode cX12_number 10 = .ok (.aload_n 0, 1) := by decide +kernel
theorem dX12_number_11 : decode cX12_number 11 = .ok (.invokevirtual 135, 3) := by decide +kernel
theorem dX12_number_14 : decode cX12_number 14 = .ok (.iload_n 1, 1) := by decide +kernel
theorem dX12_number_15 : decode cX12_number 15 = .ok (.ireturn, 1) := by decide +kernel
theorem dX12_number_16 : decode cX12_number 16 = .ok (.aload_n 0, 1) := by decide +kernel
theorem dX12_number_17 : decode cX12_number 17 = .ok (.invokevirtual 122, 3) := by decide +kernel
theorem dX12_number_20 : decode cX12_number 20 = .ok (.bipush 48, 2) := by decide +kernel
theorem dX12_number_22 : decode cX12_number 22 = .ok (.isub, 1) := by decide +kernel
theorem dX12_number_23 : decode cX12_number 23 = .ok (.istore_n 3, 1) := by decide +kernel
theorem dX12_number_24 : decode cX12_number 24 = .ok (.aload_n 0, 1) := by decide +kernel
theorem dX12_number_25 : decode cX12_number 25 = .ok (.dup, 1) := by decide +kernel
theorem dX12_number_26 : decode cX12_number 26 = .ok (.getfield 119, 3) := by decide +kernel
theorem dX12_number_29 : decode cX12_number 29 = .ok (.iconst 1, 1) := by decide +kernel
theorem dX12_number_30 : decode cX12_number 30 = .ok (.iadd, 1) := by decide +kernel
theorem dX12_number_31 : decode cX12_number 31 = .ok (.putfield 119, 3) := by decide +kernel
theorem dX12_number_34 : decode cX12_number 34 = .ok (.aload_n 0, 1) := by decide +kernel
theorem dX12_number_35 : decode cX12_number 35 = .ok (.invokevirtual 122, 3) := by decide +kernel
theorem dX12_number_38 : decode cX12_number 38 = .ok (.invokestatic 141, 3) := by decide +kernel
theorem dX12_number_41 : decode cX12_number 41 = .ok (.ifCond .eq 26, 3) := by decide +kernel
theorem dX12_number_44 : decode cX12_number 44 = .ok (.bipush 10, 2) := by decide +kernel
theorem dX12_number_46 : decode cX12_number 46 = .ok (.iload_n 3, 1) := by decide +kernel
theorem dX12_number_47 : decode cX12_number 47 = .ok (.imul, 1) := by decide +kernel
theorem dX12_number_48 : decode cX12_number 48 = .ok (.aload_n 0, 1) := by decide +kernel
theorem dX12_number_49 : decode cX12_number 49 = .ok (.invokevirtual 122, 3) := by decide +kernel
theorem dX12_number_52 : decode cX12_number 52 = .ok (.iadd, 1) := by decide +kernel
theorem dX12_number_53 : decode cX12_number 53 = .ok (.bipush 48, 2) := by decide +kernel
theorem dX12_number_55 : decode cX12_number 55 = .ok (.isub, 1) := by decide +kernel
theorem dX12_number_56 : decode cX12_number 56 = .ok (.istore_n 3, 1) := by decide +kernel
theorem dX12_number_57 : decode cX12_number 57 = .ok (.aload_n 0, 1) := by decide +kernel
theorem dX12_number_58 : decode cX12_number 58 = .ok (.dup, 1) := by decide +kernel
theorem dX12_number_59 : decode cX12_number 59 = .ok (.getfield 119, 3) := by decide +kernel
theorem dX12_number_62 : decode cX12_number 62 = .ok (.iconst 1, 1) := by decide +kernel
theorem dX12_number_63 : decode cX12_number 63 = .ok (.iadd, 1) := by decide +kernel
theorem dX12_number_64 : decode cX12_number 64 = .ok (.putfield 119, 3) := by decide +kernel
theorem dX12_number_67 : decode cX12_number 67 = .ok (.aload_n 0, 1) := by decide +kernel
theorem dX12_number_68 : decode cX12_number 68 = .ok (.invokevirtual 122, 3) := by decide +kernel
theorem dX12_number_71 : decode cX12_number 71 = .ok (.invokestatic 141, 3) := by decide +kernel
theorem dX12_number_74 : decode cX12_number 74 = .ok (.ifCond .eq 10, 3) := by decide +kernel
theorem dX12_number_77 : decode cX12_number 77 = .ok (.aload_n 0, 1) := by decide +kernel
theorem dX12_number_78 : decode cX12_number 78 = .ok (.invokevirtual 135, 3) := by decide +kernel
theorem dX12_number_81 : decode cX12_number 81 = .ok (.goto 26, 3) := by decide +kernel
theorem dX12_number_84 : decode cX12_number 84 = .ok (.iload_n 3, 1) := by decide +kernel
theorem dX12_number_85 : decode cX12_number 85 = .ok (.iload_n 1, 1) := by decide +kernel
theorem dX12_number_86 : decode cX12_number 86 = .ok (.iload_n 2, 1) := by decide +kernel
theorem dX12_number_87 : decode cX12_number 87 = .ok (.invokestatic 224, 3) := by decide +kernel
theorem dX12_number_90 : decode cX12_number 90 = .ok (.ifCond .ne 17, 3) := by decide +kernel
theorem dX12_number_93 : decode cX12_number 93 = .ok (.aload_n 0, 1) := by decide +kernel
theorem dX12_number_94 : decode cX12_number 94 = .ok (.dup, 1) := by decide +kernel
theorem dX12_number_95 : decode cX12_number 95 = .ok (.getfield 119, 3) := by decide +kernel
theorem dX12_number_98 : decode cX12_number 98 = .ok (.iconst 1, 1) := by decide +kernel
theorem dX12_number_99 : decode cX12_number 99 = .ok (.isub, 1) := by decide +kernel
theorem dX12_number_100 : decode cX12_number 100 = .ok (.putfield 119, 3) := by decide +kernel
theorem dX12_number_103 : decode cX12_number 103 = .ok (.aload_n 0, 1) := by decide +kernel
theorem dX12_number_104 : decode cX12_number 104 = .ok (.invokevirtual 135, 3) := by decide +kernel
theorem dX12_number_107 : decode cX12_number 107 = .ok (.iload_n 3, 1) := by decide +kernel
theorem dX12_number_108 : decode cX12_number 108 = .ok (.ireturn, 1) := by decide +kernel
set_option maxRecDepth 20000 in
def kX12_number_0 (g : sk_G) (d ck sk : Nat) (Q : sk_P) : sk_K := o_aload 0 (o_invB (g, d, ck, sk, xX12_number, Q) xX12_look 0 12 0 0 (o_stcB (g, d, ck, sk, xX12_number, Q) xX12_isDigit 1 0 0 (o_ifne (o_aload 0 (o_invB (g, d, ck, sk, xX12_number, Q) xX12_here 0 12 0 0 (o_i (48) (o_isub (o_istore 3 (o_aload 0 (o_dup (o_getf 12 3 (o_i (1) (o_iadd (o_puti 12 3 (o_aload 0 (o_invB (g, d, ck, sk, xX12_number, Q) xX12_here 0 12 0 0 (o_stcB (g, d, ck, sk, xX12_number, Q) xX12_isDigit 1 0 0 (o_ifeq (sk_B (g, d, ck, sk, xX12_number, Q) 67) (o_i (10) (o_iload 3 (o_imul (o_aload 0 (o_invB (g, d, ck, sk, xX12_number, Q) xX12_here 0 12 0 0 (o_iadd (o_i (48) (o_isub (o_istore 3 (o_aload 0 (o_dup (o_getf 12 3 (o_i (1) (o_iadd (o_puti 12 3 (sk_B (g, d, ck, sk, xX12_number, Q) 67))))))))))))))))))))))))))))))) (o_aload 0 (o_invB (g, d, ck, sk, xX12_number, Q) xX12_bad 0 12 0 0 (o_iload 1 (o_iret (g, d, ck, sk, xX12_number, Q))))))))
set_option maxRecDepth 20000 in
theorem tX12_number_0 {g : sk_G} {d ck sk : Nat} {Q : sk_P} : sk_S (g, d, ck, sk, xX12_number, Q) 0 (kX12_number_0 g d ck sk Q) := s_aload_n dX12_number_0 rfl (s_invB (w' := (g, d, ck, sk, xX12_number, Q)) (ci := 12) (ck := 0) (sk := 0) (T := TX12) (N := 49) dX12_number_1 m_X12_look rfl (by decide) qm_X12_138 qi_X12_look qe_X12_look rfl (s_stcB (w' := (g, d, ck, sk, xX12_number, Q)) (ck := 0) (sk := 0) dX12_number_4 m_X12_isDigit qm_X12_141 qs_X12_isDigit rfl (s_ifne (tgt := 16) dX12_number_7 (by decide) (s_aload_n dX12_number_16 rfl (s_invB (w' := (g, d, ck, sk, xX12_number, Q)) (ci := 12) (ck := 0) (sk := 0) (T := TX12) (N := 49) dX12_number_17 m_X12_here rfl (by decide) qm_X12_122 qi_X12_here qe_X12_here rfl (s_bipush dX12_number_20 rfl (s_isub dX12_number_22 (s_istore_n dX12_number_23 rfl (by decide : 3 < 4) (s_aload_n dX12_number_24 rfl (s_dup dX12_number_25 (s_getf (ci := 12) (j := 3) (C := RX12) (T := TX12) (N := 49) dX12_number_26 rfl (by decide) (by decide) qf_X12_119 (s_iconst dX12_number_29 (s_iadd dX12_number_30 (s_puti (ci := 12) (j := 3) (C := RX12) (T := TX12) (N := 49) dX12_number_31 rfl (by decide) (by decide) rfl (tyX12_ok 3 (by decide)) qf_X12_119 (s_aload_n dX12_number_34 rfl (s_invB (w' := (g, d, ck, sk, xX12_number, Q)) (ci := 12) (ck := 0) (sk := 0) (T := TX12) (N := 49) dX12_number_35 m_X12_here rfl (by decide) qm_X12_122 qi_X12_here qe_X12_here rfl (s_stcB (w' := (g, d, ck, sk, xX12_number, Q)) (ck := 0) (sk := 0) dX12_number_38 m_X12_isDigit qm_X12_141 qs_X12_isDigit rfl (s_ifeq (tgt := 67) dX12_number_41 (by decide) (sk_id) (s_bipush dX12_number_44 rfl (s_iload_n dX12_number_46 rfl (s_imul dX12_number_47 (s_aload_n dX12_number_48 rfl (s_invB (w' := (g, d, ck, sk, xX12_number, Q)) (ci := 12) (ck := 0) (sk := 0) (T := TX12) (N := 49) dX12_number_49 m_X12_here rfl (by decide) qm_X12_122 qi_X12_here qe_X12_here rfl (s_iadd dX12_number_52 (s_bipush dX12_number_53 rfl (s_isub dX12_number_55 (s_istore_n dX12_number_56 rfl (by decide : 3 < 4) (s_aload_n dX12_number_57 rfl (s_dup dX12_number_58 (s_getf (ci := 12) (j := 3) (C := RX12) (T := TX12) (N := 49) dX12_number_59 rfl (by decide) (by decide) qf_X12_119 (s_iconst dX12_number_62 (s_iadd dX12_number_63 (s_puti (ci := 12) (j := 3) (C := RX12) (T := TX12) (N := 49) dX12_number_64 rfl (by decide) (by decide) rfl (tyX12_ok 3 (by decide)) qf_X12_119 (sk_id))))))))))))))))))))))))))))))) (s_aload_n dX12_number_10 rfl (s_invB (w' := (g, d, ck, sk, xX12_number, Q)) (ci := 12) (ck := 0) (sk := 0) (T := TX12) (N := 49) dX12_number_11 m_X12_bad rfl (by decide) qm_X12_135 qi_X12_bad qe_X12_bad rfl (s_iload_n dX12_number_14 rfl (s_iret dX12_number_15 rfl)))))))
set_option maxRecDepth 20000 in
def kX12_number_67 (g : sk_G) (d ck sk : Nat) (Q : sk_P) : sk_K := o_aload 0 (o_invB (g, d, ck, sk, xX12_number, Q) xX12_here 0 12 0 0 (o_stcB (g, d, ck, sk, xX12_number, Q) xX12_isDigit 1 0 0 (o_ifeq (o_iload 3 (o_iload 1 (o_iload 2 (o_stcB (g, d, ck, sk, xX12_number, Q) xX12_in 3 0 0 (o_ifne (o_iload 3 (o_iret (g, d, ck, sk, xX12_number, Q))) (o_aload 0 (o_dup (o_getf 12 3 (o_i (1) (o_isub (o_puti 12 3 (o_aload 0 (o_invB (g, d, ck, sk, xX12_number, Q) xX12_bad 0 12 0 0 (o_iload 3 (o_iret (g, d, ck, sk, xX12_number, Q)))))))))))))))) (o_aload 0 (o_invB (g, d, ck, sk, xX12_number, Q) xX12_bad 0 12 0 0 (o_iload 3 (o_iret (g, d, ck, sk, xX12_number, Q))))))))
set_option maxRecDepth 20000 in
theorem tX12_number_67 {g : sk_G} {d ck sk : Nat} {Q : sk_P} : sk_S (g, d, ck, sk, xX12_number, Q) 67 (kX12_number_67 g d ck sk Q) := s_aload_n dX12_number_67 rfl (s_invB (w' := (g, d, ck, sk, xX12_number, Q)) (ci := 12) (ck := 0) (sk := 0) (T := TX12) (N := 49) dX12_number_68 m_X12_here rfl (by decide) qm_X12_122 qi_X12_here qe_X12_here rfl (s_stcB (w' := (g, d, ck, sk, xX12_number, Q)) (ck := 0) (sk := 0) dX12_number_71 m_X12_isDigit qm_X12_141 qs_X12_isDigit rfl (s_ifeq (tgt := 84) dX12_number_74 (by decide) (s_iload_n dX12_number_84 rfl (s_iload_n dX12_number_85 rfl (s_iload_n dX12_number_86 rfl (s_stcB (w' := (g, d, ck, sk, xX12_number, Q)) (ck := 0) (sk := 0) dX12_number_87 m_X12_in qm_X12_224 qs_X12_in rfl (s_ifne (tgt := 107) dX12_number_90 (by decide) (s_iload_n dX12_number_107 rfl (s_iret dX12_number_108 rfl)) (s_aload_n dX12_number_93 rfl (s_dup dX12_number_94 (s_getf (ci := 12) (j := 3) (C := RX12) (T := TX12) (N := 49) dX12_number_95 rfl (by decide) (by decide) qf_X12_119 (s_iconst dX12_number_98 (s_isub dX12_number_99 (s_puti (ci := 12) (j := 3) (C := RX12) (T := TX12) (N := 49) dX12_number_100 rfl (by decide) (by decide) rfl (tyX12_ok 3 (by decide)) qf_X12_119 (s_aload_n dX12_number_103 rfl (s_invB (w' := (g, d, ck, sk, xX12_number, Q)) (ci := 12) (ck := 0) (sk := 0) (T := TX12) (N := 49) dX12_number_104 m_X12_bad rfl (by decide) qm_X12_135 qi_X12_bad qe_X12_bad rfl (s_iload_n dX12_number_107 rfl (s_iret dX12_number_108 rfl))))))))))))))) (s_aload_n dX12_number_77 rfl (s_invB (w' := (g, d, ck, sk, xX12_number, Q)) (ci := 12) (ck := 0) (sk := 0) (T := TX12) (N := 49) dX12_number_78 m_X12_bad rfl (by decide) qm_X12_135 qi_X12_bad qe_X12_bad rfl (s_goto (tgt := 107) dX12_number_81 (by decide) (s_iload_n dX12_number_107 rfl (s_iret dX12_number_108 rfl))))))))
theorem dX12_isDigit_0 : decode cX12_isDigit 0 = .ok (.iload_n 0, 1) := by decide +kernel
theorem dX12_isDigit_1 : decode cX12_isDigit 1 = .ok (.bipush 48, 2) := by decide +kernel
theorem dX12_isDigit_3 : decode cX12_isDigit 3 = .ok (.if_icmp .lt 13, 3) := by decide +kernel
theorem dX12_isDigit_6 : decode cX12_isDigit 6 = .ok (.iload_n 0, 1) := by decide +kernel
theorem dX12_isDigit_7 : decode cX12_isDigit 7 = .ok (.bipush 57, 2) := by decide +kernel
theorem dX12_isDigit_9 : decode cX12_isDigit 9 = .ok (.if_icmp .gt 7, 3) := by decide +kernel
theorem dX12_isDigit_12 : decode cX12_isDigit 12 = .ok (.iconst 1, 1) := by decide +kernel
theorem dX12_isDigit_13 : decode cX12_isDigit 13 = .ok (.goto 4, 3) := by decide +kernel
theorem dX12_isDigit_16 : decode cX12_isDigit 16 = .ok (.iconst 0, 1) := by decide +kernel
theorem dX12_isDigit_17 : decode cX12_isDigit 17 = .ok (.ireturn, 1) := by decide +kernel
def kX12_isDigit_0 (g : sk_G) (d ck sk : Nat) (Q : sk_P) : sk_K := o_iload 0 (o_i (48) (o_iclt (o_i (0) (o_zret (g, d, ck, sk, xX12_isDigit, Q))) (o_iload 0 (o_i (57) (o_icgt (o_i (0) (o_zret (g, d, ck, sk, xX12_isDigit, Q))) (o_i (1) (o_zret (g, d, ck, sk, xX12_isDigit, Q))))))))
theorem tX12_isDigit_0 {g : sk_G} {d ck sk : Nat} {Q : sk_P} : sk_S (g, d, ck, sk, xX12_isDigit, Q) 0 (kX12_isDigit_0 g d ck sk Q) := s_iload_n dX12_isDigit_0 rfl (s_bipush dX12_isDigit_1 rfl (s_iclt (tgt := 16) dX12_isDigit_3 (by decide) (s_iconst dX12_isDigit_16 (s_zret dX12_isDigit_17 rfl)) (s_iload_n dX12_isDigit_6 rfl (s_bipush dX12_isDigit_7 rfl (s_icgt (tgt := 16) dX12_isDigit_9 (by decide) (s_iconst dX12_isDigit_16 (s_zret dX12_isDigit_17 rfl)) (s_iconst dX12_isDigit_12 (s_goto (tgt := 17) dX12_isDigit_13 (by decide) (s_zret dX12_isDigit_17 rfl))))))))
theorem dX12_bad_0 : decode cX12_bad 0 = .ok (.aload_n 0, 1) := by decide +kernel
theorem dX12_bad_1 : decode cX12_bad 1 = .ok (.aload_n 0, 1) := by decide +kernel
theorem dX12_bad_2 : decode cX12_bad 2 = .ok (.getfield 126, 3) := by decide +kernel
theorem dX12_bad_5 : decode cX12_bad 5 = .ok (.iconst (-1), 1) := by decide +kernel
theorem dX12_bad_6 : decode cX12_bad 6 = .ok (.if_icmp .ne 10, 3) := by decide +kernel
theorem dX12_bad_9 : decode cX12_bad 9 = .ok (.aload_n 0, 1) := by decide +kernel
theorem dX12_bad_10 : decode cX12_bad 10 = .ok (.getfield 119, 3) := by decide +kernel
theorem dX12_bad_13 : decode cX12_bad 13 = .ok (.goto 7, 3) := by decide +kernel
theorem dX12_bad_16 : decode cX12_bad 16 = .ok (.aload_n 0, 1) := by decide +kernel
theorem dX12_bad_17 : decode cX12_bad 17 = .ok (.getfield 126, 3) := by decide +kernel
theorem dX12_bad_20 : decode cX12_bad 20 = .ok (.putfield 126, 3) := by decide +kernel
theorem dX12_bad_23 : decode cX12_bad 23 = .ok (.return_, 1) := by decide +kernel
set_option maxRecDepth 20000 in
def kX12_bad_0 (g : sk_G) (d ck sk : Nat) (Q : sk_P) : sk_K := o_aload 0 (o_aload 0 (o_getf 12 4 (o_i (-1) (o_icne (o_aload 0 (o_getf 12 4 (o_puti 12 4 (o_ret (g, d, ck, sk, xX12_bad, Q))))) (o_aload 0 (o_getf 12 3 (o_puti 12 4 (o_ret (g, d, ck, sk, xX12_bad, Q)))))))))
set_option maxRecDepth 20000 in
theorem tX12_bad_0 {g : sk_G} {d ck sk : Nat} {Q : sk_P} : sk_S (g, d, ck, sk, xX12_bad, Q) 0 (kX12_bad_0 g d ck sk Q) := s_aload_n dX12_bad_0 rfl (s_aload_n dX12_bad_1 rfl (s_getf (ci := 12) (j := 4) (C := RX12) (T := TX12) (N := 49) dX12_bad_2 rfl (by decide) (by decide) qf_X12_126 (s_iconst dX12_bad_5 (s_icne (tgt := 16) dX12_bad_6 (by decide) (s_aload_n dX12_bad_16 rfl (s_getf (ci := 12) (j := 4) (C := RX12) (T := TX12) (N := 49) dX12_bad_17 rfl (by decide) (by decide) qf_X12_126 (s_puti (ci := 12) (j := 4) (C := RX12) (T := TX12) (N := 49) dX12_bad_20 rfl (by decide) (by decide) rfl (tyX12_ok 4 (by decide)) qf_X12_126 (s_ret dX12_bad_23 rfl)))) (s_aload_n dX12_bad_9 rfl (s_getf (ci := 12) (j := 3) (C := RX12) (T := TX12) (N := 49) dX12_bad_10 rfl (by decide) (by decide) qf_X12_119 (s_goto (tgt := 20) dX12_bad_13 (by decide) (s_puti (ci := 12) (j := 4) (C := RX12) (T := TX12) (N := 49) dX12_bad_20 rfl (by decide) (by decide) rfl (tyX12_ok 4 (by decide)) qf_X12_126 (s_ret dX12_bad_23 rfl)))))))))
theorem dX12_in_0 : decode cX12_in 0 = .ok (.iload_n 0, 1) := by decide +kernel
theorem dX12_in_1 : decode cX12_in 1 = .ok (.iload_n 1, 1) := by decide +kernel
theorem dX12_in_2 : decode cX12_in 2 = .ok (.if_icmp .lt 12, 3) := by decide +kernel
theorem dX12_in_5 : decode cX12_in 5 = .ok (.iload_n 0, 1) := by decide +kernel
theorem dX12_in_6 : decode cX12_in 6 = .ok (.iload_n 2, 1) := by decide +kernel
theorem dX12_in_7 : decode cX12_in 7 = .ok (.if_icmp .gt 7, 3) := by decide +kernel
theorem dX12_in_10 : decode cX12_in 10 = .ok (.iconst 1, 1) := by decide +kernel
theorem dX12_in_11 : decode cX12_in 11 = .ok (.goto 4, 3) := by decide +kernel
theorem dX12_in_14 : decode cX12_in 14 = .ok (.iconst 0, 1) := by decide +kernel
theorem dX12_in_15 : decode cX12_in 15 = .ok (.ireturn, 1) := by decide +kernel
def kX12_in_0 (g : sk_G) (d ck sk : Nat) (Q : sk_P) : sk_K := o_iload 0 (o_iload 1 (o_iclt (o_i (0) (o_zret (g, d, ck, sk, xX12_in, Q))) (o_iload 0 (o_iload 2 (o_icgt (o_i (0) (o_zret (g, d, ck, sk, xX12_in, Q))) (o_i (1) (o_zret (g, d, ck, sk, xX12_in, Q))))))))
theorem tX12_in_0 {g : sk_G} {d ck sk : Nat} {Q : sk_P} : sk_S (g, d, ck, sk, xX12_in, Q) 0 (kX12_in_0 g d ck sk Q) := s_iload_n dX12_in_0 rfl (s_iload_n dX12_in_1 rfl (s_iclt (tgt := 14) dX12_in_2 (by decide) (s_iconst dX12_in_14 (s_zret dX12_in_15 rfl)) (s_iload_n dX12_in_5 rfl (s_iload_n dX12_in_6 rfl (s_icgt (tgt := 14) dX12_in_7 (by decide) (s_iconst dX12_in_14 (s_zret dX12_in_15 rfl)) (s_iconst dX12_in_10 (s_goto (tgt := 15) dX12_in_11 (by decide) (s_zret dX12_in_15 rfl))))))))
theorem dX12_readLaw_0 : decode cX12_readLaw 0 = .ok (.aload_n 0, 1) := by decide +kernel
theorem dX12_readLaw_1 : decode cX12_readLaw 1 = .ok (.iload_n 1, 1) := by decide +kernel
theorem dX12_readLaw_2 : decode cX12_readLaw 2 = .ok (.invokevirtual 190, 3) := by decide +kernel
theorem dX12_readLaw_5 : decode cX12_readLaw 5 = .ok (.aload_n 0, 1) := by decide +kernel
theorem dX12_readLaw_6 : decode cX12_readLaw 6 = .ok (.invokevirtual 193, 3) := by decide +kernel
theorem dX12_readLaw_9 : decode cX12_readLaw 9 = .ok (.aload_n 0, 1) := by decide +kernel
theorem dX12_readLaw_10 : decode cX12_readLaw 10 = .ok (.getfield 126, 3) := by decide +kernel
theorem dX12_readLaw_13 : decode cX12_readLaw 13 = .ok (.iconst (-1), 1) := by decide +kernel
theorem dX12_readLaw_14 : decode cX12_readLaw 14 = .ok (.if_icmp .ne 29, 3) := by decide +kernel
theorem dX12_readLaw_17 : decode cX12_readLaw 17 = .ok (.aload_n 0, 1) := by decide +kernel
theorem dX12_readLaw_18 : decode cX12_readLaw 18 = .ok (.invokevirtual 138, 3) := by decide +kernel
theorem dX12_readLaw_21 : decode cX12_readLaw 21 = .ok (.bipush 59, 2) := by decide +kernel
theorem dX12_readLaw_23 : decode cX12_readLaw 23 = .ok (.if_icmp .ne 20, 3) := by decide +kernel
theorem dX12_readLaw_26 : decode cX12_readLaw 26 = .ok (.aload_n 0, 1) := by decide +kernel
theorem dX12_readLaw_27 : decode cX12_readLaw 27 = .ok (.dup, 1) := by decide +kernel
theorem dX12_readLaw_28 : decode cX12_readLaw 28 = .ok (.getfield 119, 3) := by decide +kernel
theorem dX12_readLaw_31 : decode cX12_readLaw 31 = .ok (.iconst 1, 1) := by decide +kernel
theorem dX12_readLaw_32 : decode cX12_readLaw 32 = .ok (.iadd, 1) := by decide +kernel
theorem dX12_readLaw_33 : decode cX12_readLaw 33 = .ok (.putfield 119, 3) := by decide +kernel
theorem dX12_readLaw_36 : decode cX12_readLaw 36 = .ok (.aload_n 0, 1) := by decide +kernel
theorem dX12_readLaw_37 : decode cX12_readLaw 37 = .ok (.invokevirtual 193, 3) := by decide +kernel
theorem dX12_readLaw_40 : decode cX12_readLaw 40 = .ok (.goto (-31), 3) := by decide +kernel
theorem dX12_readLaw_43 : decode cX12_readLaw 43 = .ok (.aload_n 0, 1) := by decide +kernel
theorem dX12_readLaw_44 : decode cX12_readLaw 44 = .ok (.invokevirtual 196, 3) := by decide +kernel
theorem dX12_readLaw_47 : decode cX12_readLaw 47 = .ok (.ireturn, 1) := by decide +kernel
def kX12_readLaw_0 (g : sk_G) (d ck sk : Nat) (Q : sk_P) : sk_K := o_aload 0 (o_iload 1 (o_invB (g, d, ck, sk, xX12_readLaw, Q) xX12_open 1 12 0 0 (o_aload 0 (o_invB (g, d, ck, sk, xX12_readLaw, Q) xX12_clause 0 12 0 0 (sk_B (g, d, ck, sk, xX12_readLaw, Q) 9)))))
theorem tX12_readLaw_0 {g : sk_G} {d ck sk : Nat} {Q : sk_P} : sk_S (g, d, ck, sk, xX12_readLaw, Q) 0 (kX12_readLaw_0 g d ck sk Q) := s_aload_n dX12_readLaw_0 rfl (s_iload_n dX12_readLaw_1 rfl (s_invB (w' := (g, d, ck, sk, xX12_readLaw, Q)) (ci := 12) (ck := 0) (sk := 0) (T := TX12) (N := 49) dX12_readLaw_2 m_X12_open rfl (by decide) qm_X12_190 qi_X12_open qe_X12_open rfl (s_aload_n dX12_readLaw_5 rfl (s_invB (w' := (g, d, ck, sk, xX12_readLaw, Q)) (ci := 12) (ck := 0) (sk := 0) (T := TX12) (N := 49) dX12_readLaw_6 m_X12_clause rfl (by decide) qm_X12_193 qi_X12_clause qe_X12_clause rfl (sk_id)))))
set_option maxRecDepth 20000 in
def kX12_readLaw_9 (g : sk_G) (d ck sk : Nat) (Q : sk_P) : sk_K := o_aload 0 (o_getf 12 4 (o_i (-1) (o_icne (o_aload 0 (o_invB (g, d, ck, sk, xX12_readLaw, Q) xX12_atEnd 0 12 0 0 (o_iret (g, d, ck, sk, xX12_readLaw, Q)))) (o_aload 0 (o_invB (g, d, ck, sk, xX12_readLaw, Q) xX12_look 0 12 0 0 (o_i (59) (o_icne (o_aload 0 (o_invB (g, d, ck, sk, xX12_readLaw, Q) xX12_atEnd 0 12 0 0 (o_iret (g, d, ck, sk, xX12_readLaw, Q)))) (o_aload 0 (o_dup (o_getf 12 3 (o_i (1) (o_iadd (o_puti 12 3 (o_aload 0 (o_invB (g, d, ck, sk, xX12_readLaw, Q) xX12_clause 0 12 0 0 (sk_B (g, d, ck, sk, xX12_readLaw, Q) 9))))))))))))))))
set_option maxRecDepth 20000 in
theorem tX12_readLaw_9 {g : sk_G} {d ck sk : Nat} {Q : sk_P} : sk_S (g, d, ck, sk, xX12_readLaw, Q) 9 (kX12_readLaw_9 g d ck sk Q) := s_aload_n dX12_readLaw_9 rfl (s_getf (ci := 12) (j := 4) (C := RX12) (T := TX12) (N := 49) dX12_readLaw_10 rfl (by decide) (by decide) qf_X12_126 (s_iconst dX12_readLaw_13 (s_icne (tgt := 43) dX12_readLaw_14 (by decide) (s_aload_n dX12_readLaw_43 rfl (s_invB (w' := (g, d, ck, sk, xX12_readLaw, Q)) (ci := 12) (ck := 0) (sk := 0) (T := TX12) (N := 49) dX12_readLaw_44 m_X12_atEnd rfl (by decide) qm_X12_196 qi_X12_atEnd qe_X12_atEnd rfl (s_iret dX12_readLaw_47 rfl))) (s_aload_n dX12_readLaw_17 rfl (s_invB (w' := (g, d, ck, sk, xX12_readLaw, Q)) (ci := 12) (ck := 0) (sk := 0) (T := TX12) (N := 49) dX12_readLaw_18 m_X12_look rfl (by decide) qm_X12_138 qi_X12_look qe_X12_look rfl (s_bipush dX12_readLaw_21 rfl (s_icne (tgt := 43) dX12_readLaw_23 (by decide) (s_aload_n dX12_readLaw_43 rfl (s_invB (w' := (g, d, ck, sk, xX12_readLaw, Q)) (ci := 12) (ck := 0) (sk := 0) (T := TX12) (N := 49) dX12_readLaw_44 m_X12_atEnd rfl (by decide) qm_X12_196 qi_X12_atEnd qe_X12_atEnd rfl (s_iret dX12_readLaw_47 rfl))) (s_aload_n dX12_readLaw_26 rfl (s_dup dX12_readLaw_27 (s_getf (ci := 12) (j := 3) (C := RX12) (T := TX12) (N := 49) dX12_readLaw_28 rfl (by decide) (by decide) qf_X12_119 (s_iconst dX12_readLaw_31 (s_iadd dX12_readLaw_32 (s_puti (ci := 12) (j := 3) (C := RX12) (T := TX12) (N := 49) dX12_readLaw_33 rfl (by decide) (by decide) rfl (tyX12_ok 3 (by decide)) qf_X12_119 (s_aload_n dX12_readLaw_36 rfl (s_invB (w' := (g, d, ck, sk, xX12_readLaw, Q)) (ci := 12) (ck := 0) (sk := 0) (T := TX12) (N := 49) dX12_readLaw_37 m_X12_clause rfl (by decide) qm_X12_193 qi_X12_clause qe_X12_clause rfl (s_goto (tgt := 9) dX12_readLaw_40 (by decide) (sk_id)))))))))))))))))
theorem dX12_open_0 : decode cX12_open 0 = .ok (.aload_n 0, 1) := by decide +kernel
theorem dX12_open_1 : decode cX12_open 1 = .ok (.iload_n 1, 1) := by decide +kernel
theorem dX12_open_2 : decode cX12_open 2 = .ok (.putfield 129, 3) := by decide +kernel
theorem dX12_open_5 : decode cX12_open 5 = .ok (.aload_n 0, 1) := by decide +kernel
theorem dX12_open_6 : decode cX12_open 6 = .ok (.iconst 0, 1) := by decide +kernel
theorem dX12_open_7 : decode cX12_open 7 = .ok (.putfield 119, 3) := by decide +kernel
theorem dX12_open_10 : decode cX12_open 10 = .ok (.aload_n 0, 1) := by decide +kernel
theorem dX12_open_11 : decode cX12_open 11 = .ok (.iconst (-1), 1) := by decide +kernel
theorem dX12_open_12 : decode cX12_open 12 = .ok (.putfield 126, 3) := by decide +kernel
theorem dX12_open_15 : decode cX12_open 15 = .ok (.aload_n 0, 1) := by decide +kernel
theorem dX12_open_16 : decode cX12_open 16 = .ok (.iconst 0, 1) := by decide +kernel
theorem dX12_open_17 : decode cX12_open 17 = .ok (.putfield 132, 3) := by decide +kernel
theorem dX12_open_20 : decode cX12_open 20 = .ok (.aload_n 0, 1) := by decide +kernel
theorem dX12_open_21 : decode cX12_open 21 = .ok (.getfield 19, 3) := by decide +kernel
theorem dX12_open_24 : decode cX12_open 24 = .ok (.iload_n 1, 1) := by decide +kernel
theorem dX12_open_25 : decode cX12_open 25 = .ok (.iconst 0, 1) := by decide +kernel
theorem dX12_open_26 : decode cX12_open 26 = .ok (.iastore, 1) := by decide +kernel
theorem dX12_open_27 : decode cX12_open 27 = .ok (.aload_n 0, 1) := by decide +kernel
theorem dX12_open_28 : decode cX12_open 28 = .ok (.getfield 22, 3) := by decide +kernel
theorem dX12_open_31 : decode cX12_open 31 = .ok (.iload_n 1, 1) := by decide +kernel
theorem dX12_open_32 : decode cX12_open 32 = .ok (.iconst 0, 1) := by decide +kernel
theorem dX12_open_33 : decode cX12_open 33 = .ok (.iastore, 1) := by decide +kernel
theorem dX12_open_34 : decode cX12_open 34 = .ok (.return_, 1) := by decide +kernel
set_option maxRecDepth 20000 in
def kX12_open_0 (g : sk_G) (d ck sk : Nat) (Q : sk_P) : sk_K := o_aload 0 (o_iload 1 (o_puti 12 14 (o_aload 0 (o_i (0) (o_puti 12 3 (o_aload 0 (o_i (-1) (o_puti 12 4 (o_aload 0 (o_i (0) (o_puti 12 5 (o_aload 0 (o_getf 12 8 (o_iload 1 (o_i (0) (o_iastore (o_aload 0 (o_getf 12 9 (o_iload 1 (o_i (0) (o_iastore (o_ret (g, d, ck, sk, xX12_open, Q)))))))))))))))))))))))
set_option maxRecDepth 20000 in
theorem tX12_open_0 {g : sk_G} {d ck sk : Nat} {Q : sk_P} : sk_S (g, d, ck, sk, xX12_open, Q) 0 (kX12_open_0 g d ck sk Q) := s_aload_n dX12_open_0 rfl (s_iload_n dX12_open_1 rfl (s_puti (ci := 12) (j := 14) (C := RX12) (T := TX12) (N := 49) dX12_open_2 rfl (by decide) (by decide) rfl (tyX12_ok 14 (by decide)) qf_X12_129 (s_aload_n dX12_open_5 rfl (s_iconst dX12_open_6 (s_puti (ci := 12) (j := 3) (C := RX12) (T := TX12) (N := 49) dX12_open_7 rfl (by decide) (by decide) rfl (tyX12_ok 3 (by decide)) qf_X12_119 (s_aload_n dX12_open_10 rfl (s_iconst dX12_open_11 (s_puti (ci := 12) (j := 4) (C := RX12) (T := TX12) (N := 49) dX12_open_12 rfl (by decide) (by decide) rfl (tyX12_ok 4 (by decide)) qf_X12_126 (s_aload_n dX12_open_15 rfl (s_iconst dX12_open_16 (s_puti (ci := 12) (j := 5) (C := RX12) (T := TX12) (N := 49) dX12_open_17 rfl (by decide) (by decide) rfl (tyX12_ok 5 (by decide)) qf_X12_132 (s_aload_n dX12_open_20 rfl (s_getf (ci := 12) (j := 8) (C := RX12) (T := TX12) (N := 49) dX12_open_21 rfl (by decide) (by decide) qf_X12_19 (s_iload_n dX12_open_24 rfl (s_iconst dX12_open_25 (s_iastore dX12_open_26 (s_aload_n dX12_open_27 rfl (s_getf (ci := 12) (j := 9) (C := RX12) (T := TX12) (N := 49) dX12_open_28 rfl (by decide) (by decide) qf_X12_22 (s_iload_n dX12_open_31 rfl (s_iconst dX12_open_32 (s_iastore dX12_open_33 (s_ret dX12_open_34 rfl))))))))))))))))))))))
theorem dX12_clause_0 : decode cX12_clause 0 = .ok (.sipush 140, 3) := by decide +kernel
theorem dX12_clause_3 : decode cX12_clause 3 = .ok (.aload_n 0, 1) := by decide +kernel
theorem dX12_clause_4 : decode cX12_clause 4 = .ok (.getfield 129, 3) := by decide +kernel
theorem dX12_clause_7 : decode cX12_clause 7 = .ok (.imul, 1) := by decide +kernel
theorem dX12_clause_8 : decode cX12_clause 8 = .ok (.aload_n 0, 1) := by decide +kernel
theorem dX12_clause_9 : decode cX12_clause 9 = .ok (.getfield 22, 3) := by decide +kernel
theorem dX12_clause_12 : decode cX12_clause 12 = .ok (.aload_n 0, 1) := by decide +kernel
theorem dX12_clause_13 : decode cX12_clause 13 = .ok (.getfield 129, 3) := by decide +kernel
theorem dX12_clause_16 : decode cX12_clause 16 = .ok (.iaload, 1) := by decide +kernel
theorem dX12_clause_17 : decode cX12_clause 17 = .ok (.iadd, 1) := by decide +kernel
theorem dX12_clause_18 : decode cX12_clause 18 = .ok (.istore_n 1, 1) := by decide +kernel
theorem dX12_clause_19 : decode cX12_clause 19 = .ok (.aload_n 0, 1) := by decide +kernel
theorem dX12_clause_20 : decode cX12_clause 20 = .ok (.getfield 126, 3) := by decide +kernel
theorem dX12_clause_23 : decode cX12_clause 23 = .ok (.iconst (-1), 1) := by decide +kernel
theorem dX12_clause_24 : decode cX12_clause 24 = .ok (.if_icmp .ne 16, 3) := by decide +kernel
theorem dX12_clause_27 : decode cX12_clause 27 = .ok (.aload_n 0, 1) := by decide +kernel
theorem dX12_clause_28 : decode cX12_clause 28 = .ok (.invokevirtual 138, 3) := by decide +kernel
theorem dX12_clause_31 : decode cX12_clause 31 = .ok (.bipush 121, 2) := by decide +kernel
theorem dX12_clause_33 : decode cX12_clause 33 = .ok (.if_icmp .eq 7, 3) := by decide +kernel
theorem dX12_clause_36 : decode cX12_clause 36 = .ok (.aload_n 0, 1) := by decide +kernel
theorem dX12_clause_37 : decode cX12_clause 37 = .ok (.invokevirtual 135, 3) := by decide +kernel
theorem dX12_clause_40 : decode cX12_clause 40 = .ok (.aload_n 0, 1) := by decide +kernel
theorem dX12_clause_41 : decode cX12_clause 41 = .ok (.dup, 1) := by decide +kernel
theorem dX12_clause_42 : decode cX12_clause 42 = .ok (.getfield 119, 3) := by decide +kernel
theorem dX12_clause_45 : decode cX12_clause 45 = .ok (.iconst 1, 1) := by decide +kernel
theorem dX12_clause_46 : decode cX12_clause 46 = .ok (.iadd, 1) := by decide +kernel
theorem dX12_clause_47 : decode cX12_clause 47 = .ok (.putfield 119, 3) := by decide +kernel
theorem dX12_clause_50 : decode cX12_clause 50 = .ok (.aload_n 0, 1) := by decide +kernel
theorem dX12_clause_51 : decode cX12_clause 51 = .ok (.getfield 126, 3) := by decide +kernel
theorem dX12_clause_54 : decode cX12_clause 54 = .ok (.iconst (-1), 1) := by decide +kernel
theorem dX12_clause_55 : decode cX12_clause 55 = .ok (.if_icmp .ne 16, 3) := by decide +kernel
theorem dX12_clause_58 : decode cX12_clause 58 = .ok (.aload_n 0, 1) := by decide +kernel
theorem dX12_clause_59 : decode cX12_clause 59 = .ok (.invokevirtual 138, 3) := by decide +kernel
theorem dX12_clause_62 : decode cX12_clause 62 = .ok (.bipush 58, 2) := by decide +kernel
theorem dX12_clause_64 : decode cX12_clause 64 = .ok (.if_icmp .eq 7, 3) := by decide +kernel
theorem dX12_clause_67 : decode cX12_clause 67 = .ok (.aload_n 0, 1) := by decide +kernel
theorem dX12_clause_68 : decode cX12_clause 68 = .ok (.invokevirtual 135, 3) := by decide +kernel
theorem dX12_clause_71 : decode cX12_clause 71 = .ok (.aload_n 0, 1) := by decide +kernel
theorem dX12_clause_72 : decode cX12_clause 72 = .ok (.dup, 1) := by decide +kernel
theorem dX12_clause_73 : decode cX12_clause 73 = .ok (.getfield 119, 3) := by decide +kernel
theorem dX12_clause_76 : decode cX12_clause 76 = .ok (.iconst 1, 1) := by decide +kernel
theorem dX12_clause_77 : decode cX12_clause 77 = .ok (.iadd, 1) := by decide +kernel
theorem dX12_clause_78 : decode cX12_clause 78 = .ok (.putfield 119, 3) := by decide +kernel
theorem dX12_clause_81 : decode cX12_clause 81 = .ok (.aload_n 0, 1) := by decide +kernel
theorem dX12_clause_82 : decode cX12_clause 82 = .ok (.getfield 126, 3) := by decide +kernel
theorem dX12_clause_85 : decode cX12_clause 85 = .ok (.iconst (-1), 1) := by decide +kernel
theorem dX12_clause_86 : decode cX12_clause 86 = .ok (.if_icmp .eq 4, 3) := by decide +kernel
theorem dX12_clause_89 : decode cX12_clause 89 = .ok (.return_, 1) := by decide +kernel
theorem dX12_clause_90 : decode cX12_clause 90 = .ok (.aload_n 0, 1) := by decide +kernel
theorem dX12_clause_91 : decode cX12_clause 91 = .ok (.getfield 25, 3) := by decide +kernel
theorem dX12_clause_94 : decode cX12_clause 94 = .ok (.iload_n 1, 1) := by decide +kernel
theorem dX12_clause_95 : decode cX12_clause 95 = .ok (.aload_n 0, 1) := by decide +kernel
theorem dX12_clause_96 : decode cX12_clause 96 = .ok (.getfield 19, 3) := by decide +kernel
theorem dX12_clause_99 : decode cX12_clause 99 = .ok (.aload_n 0, 1) := by decide +kernel
theorem dX12_clause_100 : decode cX12_clause 100 = .ok (.getfield 129, 3) := by decide +kernel
theorem dX12_clause_103 : decode cX12_clause 103 = .ok (.iaload, 1) := by decide +kernel
theorem dX12_clause_104 : decode cX12_clause 104 = .ok (.iastore, 1) := by decide +kernel
theorem dX12_clause_105 : decode cX12_clause 105 = .ok (.aload_n 0, 1) := by decide +kernel
theorem dX12_clause_106 : decode cX12_clause 106 = .ok (.invokevirtual 138, 3) := by decide +kernel
theorem dX12_clause_109 : decode cX12_clause 109 = .ok (.bipush 33, 2) := by decide +kernel
theorem dX12_clause_111 : decode cX12_clause 111 = .ok (.if_icmp .eq 12, 3) := by decide +kernel
theorem dX12_clause_114 : decode cX12_clause 114 = .ok (.aload_n 0, 1) := by decide +kernel
theorem dX12_clause_115 : decode cX12_clause 115 = .ok (.invokevirtual 138, 3) := by decide +kernel
theorem dX12_clause_118 : decode cX12_clause 118 = .ok (.bipush 40, 2) := by decide +kernel
theorem dX12_clause_120 : decode cX12_clause 120 = .ok (.if_icmp .ne 7, 3) := by decide +kernel
theorem dX12_clause_123 : decode cX12_clause 123 = .ok (.iconst 1, 1) := by decide +kernel
theorem dX12_clause_124 : decode cX12_clause 124 = .ok (.goto 4, 3) := by decide +kernel
theorem dX12_clause_127 : decode cX12_clause 127 = .ok (.iconst 0, 1) := by decide +kernel
theorem dX12_clause_128 : decode cX12_clause 128 = .ok (.istore_n 2, 1) := by decide +kernel
theorem dX12_clause_129 : decode cX12_clause 129 = .ok (.iload_n 2, 1) := by decide +kernel
theorem dX12_clause_130 : decode cX12_clause 130 = .ok (.ifCond .eq 10, 3) := by decide +kernel
theorem dX12_clause_133 : decode cX12_clause 133 = .ok (.aload_n 0, 1) := by decide +kernel
theorem dX12_clause_134 : decode cX12_clause 134 = .ok (.invokevirtual 178, 3) := by decide +kernel
theorem dX12_clause_137 : decode cX12_clause 137 = .ok (.goto 47, 3) := by decide +kernel
theorem dX12_clause_140 : decode cX12_clause 140 = .ok (.aload_n 0, 1) := by decide +kernel
theorem dX12_clause_141 : decode cX12_clause 141 = .ok (.invokevirtual 159, 3) := by decide +kernel
theorem dX12_clause_144 : decode cX12_clause 144 = .ok (.aload_n 0, 1) := by decide +kernel
theorem dX12_clause_145 : decode cX12_clause 145 = .ok (.getfield 126, 3) := by decide +kernel
theorem dX12_clause_148 : decode cX12_clause 148 = .ok (.iconst (-1), 1) := by decide +kernel
theorem dX12_clause_149 : decode cX12_clause 149 = .ok (.if_icmp .ne 17, 3) := by decide +kernel
theorem dX12_clause_152 : decode cX12_clause 152 = .ok (.aload_n 0, 1) := by decide +kernel
theorem dX12_clause_153 : decode cX12_clause 153 = .ok (.invokevirtual 138, 3) := by decide +kernel
theorem dX12_clause_156 : decode cX12_clause 156 = .ok (.invokestatic 172, 3) := by decide +kernel
theorem dX12_clause_159 : decode cX12_clause 159 = .ok (.ifCond .eq 7, 3) := by decide +kernel
theorem dX12_clause_162 : decode cX12_clause 162 = .ok (.iconst 1, 1) := by decide +kernel
theorem dX12_clause_163 : decode cX12_clause 163 = .ok (.goto 4, 3) := by decide +kernel
theorem dX12_clause_166 : decode cX12_clause 166 = .ok (.iconst 0, 1) := by decide +kernel
theorem dX12_clause_167 : decode cX12_clause 167 = .ok (.istore_n 2, 1) := by decide +kernel
theorem dX12_clause_168 : decode cX12_clause 168 = .ok (.iload_n 2, 1) := by decide +kernel
theorem dX12_clause_169 : decode cX12_clause 169 = .ok (.ifCond .eq 15, 3) := by decide +kernel
theorem dX12_clause_172 : decode cX12_clause 172 = .ok (.aload_n 0, 1) := by decide +kernel
theorem dX12_clause_173 : decode cX12_clause 173 = .ok (.invokevirtual 181, 3) := by decide +kernel
theorem dX12_clause_176 : decode cX12_clause 176 = .ok (.aload_n 0, 1) := by decide +kernel
theorem dX12_clause_177 : decode cX12_clause 177 = .ok (.invokevirtual 184, 3) := by decide +kernel
theorem dX12_clause_180 : decode cX12_clause 180 = .ok (.aload_n 0, 1) := by decide +kernel
theorem dX12_clause_181 : decode cX12_clause 181 = .ok (.invokevirtual 187, 3) := by decide +kernel
theorem dX12_clause_184 : decode cX12_clause 184 = .ok (.aload_n 0, 1) := by decide +kernel
theorem dX12_clause_185 : decode cX12_clause 185 = .ok (.getfield 28, 3) := by decide +kernel
theorem dX12_clause_188 : decode cX12_clause 188 = .ok (.iload_n 1, 1) := by decide +kernel
theorem dX12_clause_189 : decode cX12_clause 189 = .ok (.aload_n 0, 1) := by decide +kernel
theorem dX12_clause_190 : decode cX12_clause 190 = .ok (.getfield 25, 3) := by decide +kernel
theorem dX12_clause_193 : decode cX12_clause 193 = .ok (.iload_n 1, 1) := by decide +kernel
theorem dX12_clause_194 : decode cX12_clause 194 = .ok (.iaload, 1) := by decide +kernel
theorem dX12_clause_195 : decode cX12_clause 195 = .ok (.iastore, 1) := by decide +kernel
theorem dX12_clause_196 : decode cX12_clause 196 = .ok (.iload_n 2, 1) := by decide +kernel
theorem dX12_clause_197 : decode cX12_clause 197 = .ok (.ifCond .eq 54, 3) := by decide +kernel
theorem dX12_clause_200 : decode cX12_clause 200 = .ok (.aload_n 0, 1) := by decide +kernel
theorem dX12_clause_201 : decode cX12_clause 201 = .ok (.getfield 126, 3) := by decide +kernel
theorem dX12_clause_204 : decode cX12_clause 204 = .ok (.iconst (-1), 1) := by decide +kernel
theorem dX12_clause_205 : decode cX12_clause 205 = .ok (.if_icmp .ne 46, 3) := by decide +kernel
theorem dX12_clause_208 : decode cX12_clause 208 = .ok (.aload_n 0, 1) := by decide +kernel
theorem dX12_clause_209 : decode cX12_clause 209 = .ok (.invokevirtual 138, 3) := by decide +kernel
theorem dX12_clause_212 : decode cX12_clause 212 = .ok (.bipush 63, 2) := by decide +kernel
theorem dX12_clause_214 : decode cX12_clause 214 = .ok (.if_icmp .eq 8, 3) := by decide +kernel
theorem dX12_clause_217 : decode cX12_clause 217 = .ok (.aload_n 0, 1) := by decide +kernel
theorem dX12_clause_218 : decode cX12_clause 218 = .ok (.invokevirtual 135, 3) := by decide +kernel
theorem dX12_clause_221 : decode cX12_clause 221 = .ok (.return_, 1) := by decide +kernel
theorem dX12_clause_222 : decode cX12_clause 222 = .ok (.aload_n 0, 1) := by decide +kernel
theorem dX12_clause_223 : decode cX12_clause 223 = .ok (.dup, 1) := by decide +kernel
theorem dX12_clause_224 : decode cX12_clause 224 = .ok (.getfield 119, 3) := by decide +kernel
theorem dX12_clause_227 : decode cX12_clause 227 = .ok (.iconst 1, 1) := by decide +kernel
theorem dX12_clause_228 : decode cX12_clause 228 = .ok (.iadd, 1) := by decide +kernel
theorem dX12_clause_229 : decode cX12_clause 229 = .ok (.putfield 119, 3) := by decide +kernel
theorem dX12_clause_232 : decode cX12_clause 232 = .ok (.aload_n 0, 1) := by decide +kernel
theorem dX12_clause_233 : decode cX12_clause 233 = .ok (.getfield 28, 3) := by decide +kernel
theorem dX12_clause_236 : decode cX12_clause 236 = .ok (.iload_n 1, 1) := by decide +kernel
theorem dX12_clause_237 : decode cX12_clause 237 = .ok (.aload_n 0, 1) := by decide +kernel
theorem dX12_clause_238 : decode cX12_clause 238 = .ok (.getfield 19, 3) := by decide +kernel
theorem dX12_clause_241 : decode cX12_clause 241 = .ok (.aload_n 0, 1) := by decide +kernel
theorem dX12_clause_242 : decode cX12_clause 242 = .ok (.getfield 129, 3) := by decide +kernel
theorem dX12_clause_245 : decode cX12_clause 245 = .ok (.iaload, 1) := by decide +kernel
theorem dX12_clause_246 : decode cX12_clause 246 = .ok (.iastore, 1) := by decide +kernel
theorem dX12_clause_247 : decode cX12_clause 247 = .ok (.aload_n 0, 1) := by decide +kernel
theorem dX12_clause_248 : decode cX12_clause 248 = .ok (.invokevirtual 159, 3) := by decide +kernel
theorem dX12_clause_251 : decode cX12_clause 251 = .ok (.aload_n 0, 1) := by decide +kernel
theorem dX12_clause_252 : decode cX12_clause 252 = .ok (.getfield 31, 3) := by decide +kernel
theorem dX12_clause_255 : decode cX12_clause 255 = .ok (.iload_n 1, 1) := by decide +kernel
theorem dX12_clause_256 : decode cX12_clause 256 = .ok (.aload_n 0, 1) := by decide +kernel
theorem dX12_clause_257 : decode cX12_clause 257 = .ok (.getfield 19, 3) := by decide +kernel
theorem dX12_clause_260 : decode cX12_clause 260 = .ok (.aload_n 0, 1) := by decide +kernel
theorem dX12_clause_261 : decode cX12_clause 261 = .ok (.getfield 129, 3) := by decide +kernel
theorem dX12_clause_264 : decode cX12_clause 264 = .ok (.iaload, 1) := by decide +kernel
theorem dX12_clause_265 : decode cX12_clause 265 = .ok (.iastore, 1) := by decide +kernel
theorem dX12_clause_266 : decode cX12_clause 266 = .ok (.aload_n 0, 1) := by decide +kernel
theorem dX12_clause_267 : decode cX12_clause 267 = .ok (.getfield 22, 3) := by decide +kernel
theorem dX12_clause_270 : decode cX12_clause 270 = .ok (.aload_n 0, 1) := by decide +kernel
theorem dX12_clause_271 : decode cX12_clause 271 = .ok (.getfield 129, 3) := by decide +kernel
theorem dX12_clause_274 : decode cX12_clause 274 = .ok (.dup2, 1) := by decide +kernel
theorem dX12_clause_275 : decode cX12_clause 275 = .ok (.iaload, 1) := by decide +kernel
theorem dX12_clause_276 : decode cX12_clause 276 = .ok (.iconst 1, 1) := by decide +kernel
theorem dX12_clause_277 : decode cX12_clause 277 = .ok (.iadd, 1) := by decide +kernel
theorem dX12_clause_278 : decode cX12_clause 278 = .ok (.iastore, 1) := by decide +kernel
theorem dX12_clause_279 : decode cX12_clause 279 = .ok (.return_, 1) := by decide +kernel
set_option maxRecDepth 20000 in
def kX12_clause_0 (g : sk_G) (d ck sk : Nat) (Q : sk_P) : sk_K := o_i (140) (o_aload 0 (o_getf 12 14 (o_imul (o_aload 0 (o_getf 12 9 (o_aload 0 (o_getf 12 14 (o_iaload (o_iadd (o_istore 1 (o_aload 0 (o_getf 12 4 (o_i (-1) (o_icne (sk_B (g, d, ck, sk, xX12_clause, Q) 40) (o_aload 0 (o_invB (g, d, ck, sk, xX12_clause, Q) xX12_look 0 12 0 0 (o_i (121) (o_iceq (sk_B (g, d, ck, sk, xX12_clause, Q) 40) (o_aload 0 (o_invB (g, d, ck, sk, xX12_clause, Q) xX12_bad 0 12 0 0 (sk_B (g, d, ck, sk, xX12_clause, Q) 40)))))))))))))))))))))
set_option maxRecDepth 20000 in
theorem tX12_clause_0 {g : sk_G} {d ck sk : Nat} {Q : sk_P} : sk_S (g, d, ck, sk, xX12_clause, Q) 0 (kX12_clause_0 g d ck sk Q) := s_sipush dX12_clause_0 rfl (s_aload_n dX12_clause_3 rfl (s_getf (ci := 12) (j := 14) (C := RX12) (T := TX12) (N := 49) dX12_clause_4 rfl (by decide) (by decide) qf_X12_129 (s_imul dX12_clause_7 (s_aload_n dX12_clause_8 rfl (s_getf (ci := 12) (j := 9) (C := RX12) (T := TX12) (N := 49) dX12_clause_9 rfl (by decide) (by decide) qf_X12_22 (s_aload_n dX12_clause_12 rfl (s_getf (ci := 12) (j := 14) (C := RX12) (T := TX12) (N := 49) dX12_clause_13 rfl (by decide) (by decide) qf_X12_129 (s_iaload dX12_clause_16 (s_iadd dX12_clause_17 (s_istore_n dX12_clause_18 rfl (by decide : 1 < 3) (s_aload_n dX12_clause_19 rfl (s_getf (ci := 12) (j := 4) (C := RX12) (T := TX12) (N := 49) dX12_clause_20 rfl (by decide) (by decide) qf_X12_126 (s_iconst dX12_clause_23 (s_icne (tgt := 40) dX12_clause_24 (by decide) (sk_id) (s_aload_n dX12_clause_27 rfl (s_invB (w' := (g, d, ck, sk, xX12_clause, Q)) (ci := 12) (ck := 0) (sk := 0) (T := TX12) (N := 49) dX12_clause_28 m_X12_look rfl (by decide) qm_X12_138 qi_X12_look qe_X12_look rfl (s_bipush dX12_clause_31 rfl (s_iceq (tgt := 40) dX12_clause_33 (by decide) (sk_id) (s_aload_n dX12_clause_36 rfl (s_invB (w' := (g, d, ck, sk, xX12_clause, Q)) (ci := 12) (ck := 0) (sk := 0) (T := TX12) (N := 49) dX12_clause_37 m_X12_bad rfl (by decide) qm_X12_135 qi_X12_bad qe_X12_bad rfl (sk_id)))))))))))))))))))))
set_option maxRecDepth 20000 in
def kX12_clause_40 (g : sk_G) (d ck sk : Nat) (Q : sk_P) : sk_K := o_aload 0 (o_dup (o_getf 12 3 (o_i (1) (o_iadd (o_puti 12 3 (o_aload 0 (o_getf 12 4 (o_i (-1) (o_icne (sk_B (g, d, ck, sk, xX12_clause, Q) 71) (o_aload 0 (o_invB (g, d, ck, sk, xX12_clause, Q) xX12_look 0 12 0 0 (o_i (58) (o_iceq (sk_B (g, d, ck, sk, xX12_clause, Q) 71) (o_aload 0 (o_invB (g, d, ck, sk, xX12_clause, Q) xX12_bad 0 12 0 0 (sk_B (g, d, ck, sk, xX12_clause, Q) 71))))))))))))))))
set_option maxRecDepth 20000 in
theorem tX12_clause_40 {g : sk_G} {d ck sk : Nat} {Q : sk_P} : sk_S (g, d, ck, sk, xX12_clause, Q) 40 (kX12_clause_40 g d ck sk Q) := s_aload_n dX12_clause_40 rfl (s_dup dX12_clause_41 (s_getf (ci := 12) (j := 3) (C := RX12) (T := TX12) (N := 49) dX12_clause_42 rfl (by decide) (by decide) qf_X12_119 (s_iconst dX12_clause_45 (s_iadd dX12_clause_46 (s_puti (ci := 12) (j := 3) (C := RX12) (T := TX12) (N := 49) dX12_clause_47 rfl (by decide) (by decide) rfl (tyX12_ok 3 (by decide)) qf_X12_119 (s_aload_n dX12_clause_50 rfl (s_getf (ci := 12) (j := 4) (C := RX12) (T := TX12) (N := 49) dX12_clause_51 rfl (by decide) (by decide) qf_X12_126 (s_iconst dX12_clause_54 (s_icne (tgt := 71) dX12_clause_55 (by decide) (sk_id) (s_aload_n dX12_clause_58 rfl (s_invB (w' := (g, d, ck, sk, xX12_clause, Q)) (ci := 12) (ck := 0) (sk := 0) (T := TX12) (N := 49) dX12_clause_59 m_X12_look rfl (by decide) qm_X12_138 qi_X12_look qe_X12_look rfl (s_bipush dX12_clause_62 rfl (s_iceq (tgt := 71) dX12_clause_64 (by decide) (sk_id) (s_aload_n dX12_clause_67 rfl (s_invB (w' := (g, d, ck, sk, xX12_clause, Q)) (ci := 12) (ck := 0) (sk := 0) (T := TX12) (N := 49) dX12_clause_68 m_X12_bad rfl (by decide) qm_X12_135 qi_X12_bad qe_X12_bad rfl (sk_id))))))))))))))))
set_option maxRecDepth 20000 in
def kX12_clause_71 (g : sk_G) (d ck sk : Nat) (Q : sk_P) : sk_K := o_aload 0 (o_dup (o_getf 12 3 (o_i (1) (o_iadd (o_puti 12 3 (o_aload 0 (o_getf 12 4 (o_i (-1) (o_iceq (o_aload 0 (o_getf 12 10 (o_iload 1 (o_aload 0 (o_getf 12 8 (o_aload 0 (o_getf 12 14 (o_iaload (o_iastore (o_aload 0 (o_invB (g, d, ck, sk, xX12_clause, Q) xX12_look 0 12 0 0 (o_i (33) (o_iceq (o_i (1) (sk_B (g, d, ck, sk, xX12_clause, Q) 128)) (o_aload 0 (o_invB (g, d, ck, sk, xX12_clause, Q) xX12_look 0 12 0 0 (o_i (40) (o_icne (o_i (0) (sk_B (g, d, ck, sk, xX12_clause, Q) 128)) (o_i (1) (sk_B (g, d, ck, sk, xX12_clause, Q) 128))))))))))))))))))) (o_ret (g, d, ck, sk, xX12_clause, Q)))))))))))
set_option maxRecDepth 20000 in
theorem tX12_clause_71 {g : sk_G} {d ck sk : Nat} {Q : sk_P} : sk_S (g, d, ck, sk, xX12_clause, Q) 71 (kX12_clause_71 g d ck sk Q) := s_aload_n dX12_clause_71 rfl (s_dup dX12_clause_72 (s_getf (ci := 12) (j := 3) (C := RX12) (T := TX12) (N := 49) dX12_clause_73 rfl (by decide) (by decide) qf_X12_119 (s_iconst dX12_clause_76 (s_iadd dX12_clause_77 (s_puti (ci := 12) (j := 3) (C := RX12) (T := TX12) (N := 49) dX12_clause_78 rfl (by decide) (by decide) rfl (tyX12_ok 3 (by decide)) qf_X12_119 (s_aload_n dX12_clause_81 rfl (s_getf (ci := 12) (j := 4) (C := RX12) (T := TX12) (N := 49) dX12_clause_82 rfl (by decide) (by decide) qf_X12_126 (s_iconst dX12_clause_85 (s_iceq (tgt := 90) dX12_clause_86 (by decide) (s_aload_n dX12_clause_90 rfl (s_getf (ci := 12) (j := 10) (C := RX12) (T := TX12) (N := 49) dX12_clause_91 rfl (by decide) (by decide) qf_X12_25 (s_iload_n dX12_clause_94 rfl (s_aload_n dX12_clause_95 rfl (s_getf (ci := 12) (j := 8) (C := RX12) (T := TX12) (N := 49) dX12_clause_96 rfl (by decide) (by decide) qf_X12_19 (s_aload_n dX12_clause_99 rfl (s_getf (ci := 12) (j := 14) (C := RX12) (T := TX12) (N := 49) dX12_clause_100 rfl (by decide) (by decide) qf_X12_129 (s_iaload dX12_clause_103 (s_iastore dX12_clause_104 (s_aload_n dX12_clause_105 rfl (s_invB (w' := (g, d, ck, sk, xX12_clause, Q)) (ci := 12) (ck := 0) (sk := 0) (T := TX12) (N := 49) dX12_clause_106 m_X12_look rfl (by decide) qm_X12_138 qi_X12_look qe_X12_look rfl (s_bipush dX12_clause_109 rfl (s_iceq (tgt := 123) dX12_clause_111 (by decide) (s_iconst dX12_clause_123 (s_goto (tgt := 128) dX12_clause_124 (by decide) (sk_id))) (s_aload_n dX12_clause_114 rfl (s_invB (w' := (g, d, ck, sk, xX12_clause, Q)) (ci := 12) (ck := 0) (sk := 0) (T := TX12) (N := 49) dX12_clause_115 m_X12_look rfl (by decide) qm_X12_138 qi_X12_look qe_X12_look rfl (s_bipush dX12_clause_118 rfl (s_icne (tgt := 127) dX12_clause_120 (by decide) (s_iconst dX12_clause_127 (sk_id)) (s_iconst dX12_clause_123 (s_goto (tgt := 128) dX12_clause_124 (by decide) (sk_id)))))))))))))))))))) (s_ret dX12_clause_89 rfl))))))))))
set_option maxRecDepth 20000 in
def kX12_clause_128 (g : sk_G) (d ck sk : Nat) (Q : sk_P) : sk_K := o_istore 2 (o_iload 2 (o_ifeq (o_aload 0 (o_invB (g, d, ck, sk, xX12_clause, Q) xX12_sum 0 12 0 0 (o_aload 0 (o_getf 12 4 (o_i (-1) (o_icne (o_i (0) (sk_B (g, d, ck, sk, xX12_clause, Q) 167)) (o_aload 0 (o_invB (g, d, ck, sk, xX12_clause, Q) xX12_look 0 12 0 0 (o_stcB (g, d, ck, sk, xX12_clause, Q) xX12_isSign 1 0 0 (o_ifeq (o_i (0) (sk_B (g, d, ck, sk, xX12_clause, Q) 167)) (o_i (1) (sk_B (g, d, ck, sk, xX12_clause, Q) 167)))))))))))) (o_aload 0 (o_invB (g, d, ck, sk, xX12_clause, Q) xX12_condition 0 12 0 0 (sk_B (g, d, ck, sk, xX12_clause, Q) 184)))))
set_option maxRecDepth 20000 in
theorem tX12_clause_128 {g : sk_G} {d ck sk : Nat} {Q : sk_P} : sk_S (g, d, ck, sk, xX12_clause, Q) 128 (kX12_clause_128 g d ck sk Q) := s_istore_n dX12_clause_128 rfl (by decide : 2 < 3) (s_iload_n dX12_clause_129 rfl (s_ifeq (tgt := 140) dX12_clause_130 (by decide) (s_aload_n dX12_clause_140 rfl (s_invB (w' := (g, d, ck, sk, xX12_clause, Q)) (ci := 12) (ck := 0) (sk := 0) (T := TX12) (N := 49) dX12_clause_141 m_X12_sum rfl (by decide) qm_X12_159 qi_X12_sum qe_X12_sum rfl (s_aload_n dX12_clause_144 rfl (s_getf (ci := 12) (j := 4) (C := RX12) (T := TX12) (N := 49) dX12_clause_145 rfl (by decide) (by decide) qf_X12_126 (s_iconst dX12_clause_148 (s_icne (tgt := 166) dX12_clause_149 (by decide) (s_iconst dX12_clause_166 (sk_id)) (s_aload_n dX12_clause_152 rfl (s_invB (w' := (g, d, ck, sk, xX12_clause, Q)) (ci := 12) (ck := 0) (sk := 0) (T := TX12) (N := 49) dX12_clause_153 m_X12_look rfl (by decide) qm_X12_138 qi_X12_look qe_X12_look rfl (s_stcB (w' := (g, d, ck, sk, xX12_clause, Q)) (ck := 0) (sk := 0) dX12_clause_156 m_X12_isSign qm_X12_172 qs_X12_isSign rfl (s_ifeq (tgt := 166) dX12_clause_159 (by decide) (s_iconst dX12_clause_166 (sk_id)) (s_iconst dX12_clause_162 (s_goto (tgt := 167) dX12_clause_163 (by decide) (sk_id))))))))))))) (s_aload_n dX12_clause_133 rfl (s_invB (w' := (g, d, ck, sk, xX12_clause, Q)) (ci := 12) (ck := 0) (sk := 0) (T := TX12) (N := 49) dX12_clause_134 m_X12_condition rfl (by decide) qm_X12_178 qi_X12_condition qe_X12_condition rfl (s_goto (tgt := 184) dX12_clause_137 (by decide) (sk_id))))))
set_option maxRecDepth 20000 in
def kX12_clause_167 (g : sk_G) (d ck sk : Nat) (Q : sk_P) : sk_K := o_istore 2 (o_iload 2 (o_ifeq (sk_B (g, d, ck, sk, xX12_clause, Q) 184) (o_aload 0 (o_invB (g, d, ck, sk, xX12_clause, Q) xX12_compare 0 12 0 0 (o_aload 0 (o_invB (g, d, ck, sk, xX12_clause, Q) xX12_goOnAnd 0 12 0 0 (o_aload 0 (o_invB (g, d, ck, sk, xX12_clause, Q) xX12_goOnOr 0 12 0 0 (sk_B (g, d, ck, sk, xX12_clause, Q) 184)))))))))
set_option maxRecDepth 20000 in
theorem tX12_clause_167 {g : sk_G} {d ck sk : Nat} {Q : sk_P} : sk_S (g, d, ck, sk, xX12_clause, Q) 167 (kX12_clause_167 g d ck sk Q) := s_istore_n dX12_clause_167 rfl (by decide : 2 < 3) (s_iload_n dX12_clause_168 rfl (s_ifeq (tgt := 184) dX12_clause_169 (by decide) (sk_id) (s_aload_n dX12_clause_172 rfl (s_invB (w' := (g, d, ck, sk, xX12_clause, Q)) (ci := 12) (ck := 0) (sk := 0) (T := TX12) (N := 49) dX12_clause_173 m_X12_compare rfl (by decide) qm_X12_181 qi_X12_compare qe_X12_compare rfl (s_aload_n dX12_clause_176 rfl (s_invB (w' := (g, d, ck, sk, xX12_clause, Q)) (ci := 12) (ck := 0) (sk := 0) (T := TX12) (N := 49) dX12_clause_177 m_X12_goOnAnd rfl (by decide) qm_X12_184 qi_X12_goOnAnd qe_X12_goOnAnd rfl (s_aload_n dX12_clause_180 rfl (s_invB (w' := (g, d, ck, sk, xX12_clause, Q)) (ci := 12) (ck := 0) (sk := 0) (T := TX12) (N := 49) dX12_clause_181 m_X12_goOnOr rfl (by decide) qm_X12_187 qi_X12_goOnOr qe_X12_goOnOr rfl (sk_id)))))))))
set_option maxRecDepth 20000 in
def kX12_clause_184 (g : sk_G) (d ck sk : Nat) (Q : sk_P) : sk_K := o_aload 0 (o_getf 12 11 (o_iload 1 (o_aload 0 (o_getf 12 10 (o_iload 1 (o_iaload (o_iastore (o_iload 2 (o_ifeq (sk_B (g, d, ck, sk, xX12_clause, Q) 251) (o_aload 0 (o_getf 12 4 (o_i (-1) (o_icne (sk_B (g, d, ck, sk, xX12_clause, Q) 251) (o_aload 0 (o_invB (g, d, ck, sk, xX12_clause, Q) xX12_look 0 12 0 0 (o_i (63) (o_iceq (o_aload 0 (o_dup (o_getf 12 3 (o_i (1) (o_iadd (o_puti 12 3 (o_aload 0 (o_getf 12 11 (o_iload 1 (o_aload 0 (o_getf 12 8 (o_aload 0 (o_getf 12 14 (o_iaload (o_iastore (o_aload 0 (o_invB (g, d, ck, sk, xX12_clause, Q) xX12_sum 0 12 0 0 (sk_B (g, d, ck, sk, xX12_clause, Q) 251)))))))))))))))))) (o_aload 0 (o_invB (g, d, ck, sk, xX12_clause, Q) xX12_bad 0 12 0 0 (o_ret (g, d, ck, sk, xX12_clause, Q)))))))))))))))))))))
set_option maxRecDepth 20000 in
theorem tX12_clause_184 {g : sk_G} {d ck sk : Nat} {Q : sk_P} : sk_S (g, d, ck, sk, xX12_clause, Q) 184 (kX12_clause_184 g d ck sk Q) := s_aload_n dX12_clause_184 rfl (s_getf (ci := 12) (j := 11) (C := RX12) (T := TX12) (N := 49) dX12_clause_185 rfl (by decide) (by decide) qf_X12_28 (s_iload_n dX12_clause_188 rfl (s_aload_n dX12_clause_189 rfl (s_getf (ci := 12) (j := 10) (C := RX12) (T := TX12) (N := 49) dX12_clause_190 rfl (by decide) (by decide) qf_X12_25 (s_iload_n dX12_clause_193 rfl (s_iaload dX12_clause_194 (s_iastore dX12_clause_195 (s_iload_n dX12_clause_196 rfl (s_ifeq (tgt := 251) dX12_clause_197 (by decide) (sk_id) (s_aload_n dX12_clause_200 rfl (s_getf (ci := 12) (j := 4) (C := RX12) (T := TX12) (N := 49) dX12_clause_201 rfl (by decide) (by decide) qf_X12_126 (s_iconst dX12_clause_204 (s_icne (tgt := 251) dX12_clause_205 (by decide) (sk_id) (s_aload_n dX12_clause_208 rfl (s_invB (w' := (g, d, ck, sk, xX12_clause, Q)) (ci := 12) (ck := 0) (sk := 0) (T := TX12) (N := 49) dX12_clause_209 m_X12_look rfl (by decide) qm_X12_138 qi_X12_look qe_X12_look rfl (s_bipush dX12_clause_212 rfl (s_iceq (tgt := 222) dX12_clause_214 (by decide) (s_aload_n dX12_clause_222 rfl (s_dup dX12_clause_223 (s_getf (ci := 12) (j := 3) (C := RX12) (T := TX12) (N := 49) dX12_clause_224 rfl (by decide) (by decide) qf_X12_119 (s_iconst dX12_clause_227 (s_iadd dX12_clause_228 (s_puti (ci := 12) (j := 3) (C := RX12) (T := TX12) (N := 49) dX12_clause_229 rfl (by decide) (by decide) rfl (tyX12_ok 3 (by decide)) qf_X12_119 (s_aload_n dX12_clause_232 rfl (s_getf (ci := 12) (j := 11) (C := RX12) (T := TX12) (N := 49) dX12_clause_233 rfl (by decide) (by decide) qf_X12_28 (s_iload_n dX12_clause_236 rfl (s_aload_n dX12_clause_237 rfl (s_getf (ci := 12) (j := 8) (C := RX12) (T := TX12) (N := 49) dX12_clause_238 rfl (by decide) (by decide) qf_X12_19 (s_aload_n dX12_clause_241 rfl (s_getf (ci := 12) (j := 14) (C := RX12) (T := TX12) (N := 49) dX12_clause_242 rfl (by decide) (by decide) qf_X12_129 (s_iaload dX12_clause_245 (s_iastore dX12_clause_246 (s_aload_n dX12_clause_247 rfl (s_invB (w' := (g, d, ck, sk, xX12_clause, Q)) (ci := 12) (ck := 0) (sk := 0) (T := TX12) (N := 49) dX12_clause_248 m_X12_sum rfl (by decide) qm_X12_159 qi_X12_sum qe_X12_sum rfl (sk_id)))))))))))))))))) (s_aload_n dX12_clause_217 rfl (s_invB (w' := (g, d, ck, sk, xX12_clause, Q)) (ci := 12) (ck := 0) (sk := 0) (T := TX12) (N := 49) dX12_clause_218 m_X12_bad rfl (by decide) qm_X12_135 qi_X12_bad qe_X12_bad rfl (s_ret dX12_clause_221 rfl))))))))))))))))))))
set_option maxRecDepth 20000 in
def kX12_clause_251 (g : sk_G) (d ck sk : Nat) (Q : sk_P) : sk_K := o_aload 0 (o_getf 12 12 (o_iload 1 (o_aload 0 (o_getf 12 8 (o_aload 0 (o_getf 12 14 (o_iaload (o_iastore (o_aload 0 (o_getf 12 9 (o_aload 0 (o_getf 12 14 (o_dup2 (o_iaload (o_i (1) (o_iadd (o_iastore (o_ret (g, d, ck, sk, xX12_clause, Q)))))))))))))))))))
set_option maxRecDepth 20000 in
theorem tX12_clause_251 {g : sk_G} {d ck sk : Nat} {Q : sk_P} : sk_S (g, d, ck, sk, xX12_clause, Q) 251 (kX12_clause_251 g d ck sk Q) := s_aload_n dX12_clause_251 rfl (s_getf (ci := 12) (j := 12) (C := RX12) (T := TX12) (N := 49) dX12_clause_252 rfl (by decide) (by decide) qf_X12_31 (s_iload_n dX12_clause_255 rfl (s_aload_n dX12_clause_256 rfl (s_getf (ci := 12) (j := 8) (C := RX12) (T := TX12) (N := 49) dX12_clause_257 rfl (by decide) (by decide) qf_X12_19 (s_aload_n dX12_clause_260 rfl (s_getf (ci := 12) (j := 14) (C := RX12) (T := TX12) (N := 49) dX12_clause_261 rfl (by decide) (by decide) qf_X12_129 (s_iaload dX12_clause_264 (s_iastore dX12_clause_265 (s_aload_n dX12_clause_266 rfl (s_getf (ci := 12) (j := 9) (C := RX12) (T := TX12) (N := 49) dX12_clause_267 rfl (by decide) (by decide) qf_X12_22 (s_aload_n dX12_clause_270 rfl (s_getf (ci := 12) (j := 14) (C := RX12) (T := TX12) (N := 49) dX12_clause_271 rfl (by decide) (by decide) qf_X12_129 (s_dup2 dX12_clause_274 (s_iaload dX12_clause_275 (s_iconst dX12_clause_276 (s_iadd dX12_clause_277 (s_iastore dX12_clause_278 (s_ret dX12_clause_279 rfl))))))))))))))))))
theorem dX12_condition_0 : decode cX12_condition 0 = .ok (.aload_n 0, 1) := by decide +kernel
theorem dX12_condition_1 : decode cX12_condition 1 = .ok (.invokevirtual 175, 3) := by decide +kernel
theorem dX12_condition_4 : decode cX12_condition 4 = .ok (.aload_n 0, 1) := by decide +kernel
theorem dX12_condition_5 : decode cX12_condition 5 = .ok (.invokevirtual 184, 3) := by decide +kernel
theorem dX12_condition_8 : decode cX12_condition 8 = .ok (.aload_n 0, 1) := by decide +kernel
theorem dX12_condition_9 : decode cX12_condition 9 = .ok (.invokevirtual 187, 3) := by decide +kernel
theorem dX12_condition_12 : decode cX12_condition 12 = .ok (.return_, 1) := by decide +kernel
set_option maxRecDepth 20000 in
def kX12_condition_0 (g : sk_G) (d ck sk : Nat) (Q : sk_P) : sk_K := o_aload 0 (o_invB (g, d, ck, sk, xX12_condition, Q) xX12_unit 0 12 0 0 (o_aload 0 (o_invB (g, d, ck, sk, xX12_condition, Q) xX12_goOnAnd 0 12 0 0 (o_aload 0 (o_invB (g, d, ck, sk, xX12_condition, Q) xX12_goOnOr 0 12 0 0 (o_ret (g, d, ck, sk, xX12_condition, Q)))))))
set_option maxRecDepth 20000 in
theorem tX12_condition_0 {g : sk_G} {d ck sk : Nat} {Q : sk_P} : sk_S (g, d, ck, sk, xX12_condition, Q) 0 (kX12_condition_0 g d ck sk Q) := s_aload_n dX12_condition_0 rfl (s_invB (w' := (g, d, ck, sk, xX12_condition, Q)) (ci := 12) (ck := 0) (sk := 0) (T := TX12) (N := 49) dX12_condition_1 m_X12_unit rfl (by decide) qm_X12_175 qi_X12_unit qe_X12_unit rfl (s_aload_n dX12_condition_4 rfl (s_invB (w' := (g, d, ck, sk, xX12_condition, Q)) (ci := 12) (ck := 0) (sk := 0) (T := TX12) (N := 49) dX12_condition_5 m_X12_goOnAnd rfl (by decide) qm_X12_184 qi_X12_goOnAnd qe_X12_goOnAnd rfl (s_aload_n dX12_condition_8 rfl (s_invB (w' := (g, d, ck, sk, xX12_condition, Q)) (ci := 12) (ck := 0) (sk := 0) (T := TX12) (N := 49) dX12_condition_9 m_X12_goOnOr rfl (by decide) qm_X12_187 qi_X12_goOnOr qe_X12_goOnOr rfl (s_ret dX12_condition_12 rfl))))))
theorem dX12_unit_0 : decode cX12_unit 0 = .ok (.aload_n 0, 1) := by decide +kernel
theorem dX12_unit_1 : decode cX12_unit 1 = .ok (.invokevirtual 138, 3) := by decide +kernel
theorem dX12_unit_4 : decode cX12_unit 4 = .ok (.istore_n 1, 1) := by decide +kernel
theorem dX12_unit_5 : decode cX12_unit 5 = .ok (.iload_n 1, 1) := by decide +kernel
theorem dX12_unit_6 : decode cX12_unit 6 = .ok (.bipush 33, 2) := by decide +kernel
theorem dX12_unit_8 : decode cX12_unit 8 = .ok (.if_icmp .ne 39, 3) := by decide +kernel
theorem dX12_unit_11 : decode cX12_unit 11 = .ok (.aload_n 0, 1) := by decide +kernel
theorem dX12_unit_12 : decode cX12_unit 12 = .ok (.invokevirtual 156, 3) := by decide +kernel
theorem dX12_unit_15 : decode cX12_unit 15 = .ok (.aload_n 0, 1) := by decide +kernel
theorem dX12_unit_16 : decode cX12_unit 16 = .ok (.getfield 126, 3) := by decide +kernel
theorem dX12_unit_19 : decode cX12_unit 19 = .ok (.iconst (-1), 1) := by decide +kernel
theorem dX12_unit_20 : decode cX12_unit 20 = .ok (.if_icmp .ne 74, 3) := by decide +kernel
theorem dX12_unit_23 : decode cX12_unit 23 = .ok (.aload_n 0, 1) := by decide +kernel
theorem dX12_unit_24 : decode cX12_unit 24 = .ok (.invokevirtual 175, 3) := by decide +kernel
theorem dX12_unit_27 : decode cX12_unit 27 = .ok (.aload_n 0, 1) := by decide +kernel
theorem dX12_unit_28 : decode cX12_unit 28 = .ok (.bipush 9, 2) := by decide +kernel
theorem dX12_unit_30 : decode cX12_unit 30 = .ok (.iconst 0, 1) := by decide +kernel
theorem dX12_unit_31 : decode cX12_unit 31 = .ok (.invokevirtual 148, 3) := by decide +kernel
theorem dX12_unit_34 : decode cX12_unit 34 = .ok (.aload_n 0, 1) := by decide +kernel
theorem dX12_unit_35 : decode cX12_unit 35 = .ok (.dup, 1) := by decide +kernel
theorem dX12_unit_36 : decode cX12_unit 36 = .ok (.getfield 132, 3) := by decide +kernel
theorem dX12_unit_39 : decode cX12_unit 39 = .ok (.iconst 1, 1) := by decide +kernel
theorem dX12_unit_40 : decode cX12_unit 40 = .ok (.isub, 1) := by decide +kernel
theorem dX12_unit_41 : decode cX12_unit 41 = .ok (.putfield 132, 3) := by decide +kernel
theorem dX12_unit_44 : decode cX12_unit 44 = .ok (.goto 50, 3) := by decide +kernel
theorem dX12_unit_47 : decode cX12_unit 47 = .ok (.iload_n 1, 1) := by decide +kernel
theorem dX12_unit_48 : decode cX12_unit 48 = .ok (.bipush 40, 2) := by decide +kernel
theorem dX12_unit_50 : decode cX12_unit 50 = .ok (.if_icmp .ne 28, 3) := by decide +kernel
theorem dX12_unit_53 : decode cX12_unit 53 = .ok (.aload_n 0, 1) := by decide +kernel
theorem dX12_unit_54 : decode cX12_unit 54 = .ok (.invokevirtual 156, 3) := by decide +kernel
theorem dX12_unit_57 : decode cX12_unit 57 = .ok (.aload_n 0, 1) := by decide +kernel
theorem dX12_unit_58 : decode cX12_unit 58 = .ok (.getfield 126, 3) := by decide +kernel
theorem dX12_unit_61 : decode cX12_unit 61 = .ok (.iconst (-1), 1) := by decide +kernel
theorem dX12_unit_62 : decode cX12_unit 62 = .ok (.if_icmp .ne 32, 3) := by decide +kernel
theorem dX12_unit_65 : decode cX12_unit 65 = .ok (.aload_n 0, 1) := by decide +kernel
theorem dX12_unit_66 : decode cX12_unit 66 = .ok (.invokevirtual 178, 3) := by decide +kernel
theorem dX12_unit_69 : decode cX12_unit 69 = .ok (.aload_n 0, 1) := by decide +kernel
theorem dX12_unit_70 : decode cX12_unit 70 = .ok (.bipush 41, 2) := by decide +kernel
theorem dX12_unit_72 : decode cX12_unit 72 = .ok (.invokevirtual 162, 3) := by decide +kernel
theorem dX12_unit_75 : decode cX12_unit 75 = .ok (.goto 19, 3) := by decide +kernel
theorem dX12_unit_78 : decode cX12_unit 78 = .ok (.aload_n 0, 1) := by decide +kernel
theorem dX12_unit_79 : decode cX12_unit 79 = .ok (.invokevirtual 159, 3) := by decide +kernel
theorem dX12_unit_82 : decode cX12_unit 82 = .ok (.aload_n 0, 1) := by decide +kernel
theorem dX12_unit_83 : decode cX12_unit 83 = .ok (.getfield 126, 3) := by decide +kernel
theorem dX12_unit_86 : decode cX12_unit 86 = .ok (.iconst (-1), 1) := by decide +kernel
theorem dX12_unit_87 : decode cX12_unit 87 = .ok (.if_icmp .ne 7, 3) := by decide +kernel
theorem dX12_unit_90 : decode cX12_unit 90 = .ok (.aload_n 0, 1) := by decide +kernel
theorem dX12_unit_91 : decode cX12_unit 91 = .ok (.invokevirtual 181, 3) := by decide +kernel
theorem dX12_unit_94 : decode cX12_unit 94 = .ok (.return_, 1) := by decide +kernel
set_option maxRecDepth 20000 in
def kX12_unit_0 (g : sk_G) (d ck sk : Nat) (Q : sk_P) : sk_K := o_aload 0 (o_invB (g, d, ck, sk, xX12_unit, Q) xX12_look 0 12 0 0 (o_istore 1 (o_iload 1 (o_i (33) (o_icne (o_iload 1 (o_i (40) (o_icne (o_aload 0 (o_invB (g, d, ck, sk, xX12_unit, Q) xX12_sum 0 12 0 0 (o_aload 0 (o_getf 12 4 (o_i (-1) (o_icne (o_ret (g, d, ck, sk, xX12_unit, Q)) (o_aload 0 (o_invB (g, d, ck, sk, xX12_unit, Q) xX12_compare 0 12 0 0 (o_ret (g, d, ck, sk, xX12_unit, Q)))))))))) (o_aload 0 (o_invB (g, d, ck, sk, xX12_unit, Q) xX12_opens 0 12 0 0 (o_aload 0 (o_getf 12 4 (o_i (-1) (o_icne (o_ret (g, d, ck, sk, xX12_unit, Q)) (o_aload 0 (o_invB (g, d, ck, sk, xX12_unit, Q) xX12_condition 0 12 0 0 (o_aload 0 (o_i (41) (o_invB (g, d, ck, sk, xX12_unit, Q) xX12_closes 1 12 0 0 (o_ret (g, d, ck, sk, xX12_unit, Q)))))))))))))))) (o_aload 0 (o_invB (g, d, ck, sk, xX12_unit, Q) xX12_opens 0 12 0 0 (o_aload 0 (o_getf 12 4 (o_i (-1) (o_icne (o_ret (g, d, ck, sk, xX12_unit, Q)) (o_aload 0 (o_invB (g, d, ck, sk, xX12_unit, Q) xX12_unit 0 12 0 0 (o_aload 0 (o_i (9) (o_i (0) (o_invB (g, d, ck, sk, xX12_unit, Q) xX12_put 2 12 0 0 (o_aload 0 (o_dup (o_getf 12 5 (o_i (1) (o_isub (o_puti 12 5 (o_ret (g, d, ck, sk, xX12_unit, Q)))))))))))))))))))))))))
set_option maxRecDepth 20000 in
theorem tX12_unit_0 {g : sk_G} {d ck sk : Nat} {Q : sk_P} : sk_S (g, d, ck, sk, xX12_unit, Q) 0 (kX12_unit_0 g d ck sk Q) := s_aload_n dX12_unit_0 rfl (s_invB (w' := (g, d, ck, sk, xX12_unit, Q)) (ci := 12) (ck := 0) (sk := 0) (T := TX12) (N := 49) dX12_unit_1 m_X12_look rfl (by decide) qm_X12_138 qi_X12_look qe_X12_look rfl (s_istore_n dX12_unit_4 rfl (by decide : 1 < 2) (s_iload_n dX12_unit_5 rfl (s_bipush dX12_unit_6 rfl (s_icne (tgt := 47) dX12_unit_8 (by decide) (s_iload_n dX12_unit_47 rfl (s_bipush dX12_unit_48 rfl (s_icne (tgt := 78) dX12_unit_50 (by decide) (s_aload_n dX12_unit_78 rfl (s_invB (w' := (g, d, ck, sk, xX12_unit, Q)) (ci := 12) (ck := 0) (sk := 0) (T := TX12) (N := 49) dX12_unit_79 m_X12_sum rfl (by decide) qm_X12_159 qi_X12_sum qe_X12_sum rfl (s_aload_n dX12_unit_82 rfl (s_getf (ci := 12) (j := 4) (C := RX12) (T := TX12) (N := 49) dX12_unit_83 rfl (by decide) (by decide) qf_X12_126 (s_iconst dX12_unit_86 (s_icne (tgt := 94) dX12_unit_87 (by decide) (s_ret dX12_unit_94 rfl) (s_aload_n dX12_unit_90 rfl (s_invB (w' := (g, d, ck, sk, xX12_unit, Q)) (ci := 12) (ck := 0) (sk := 0) (T := TX12) (N := 49) dX12_unit_91 m_X12_compare rfl (by decide) qm_X12_181 qi_X12_compare qe_X12_compare rfl (s_ret dX12_unit_94 rfl))))))))) (s_aload_n dX12_unit_53 rfl (s_invB (w' := (g, d, ck, sk, xX12_unit, Q)) (ci := 12) (ck := 0) (sk := 0) (T := TX12) (N := 49) dX12_unit_54 m_X12_opens rfl (by decide) qm_X12_156 qi_X12_opens qe_X12_opens rfl (s_aload_n dX12_unit_57 rfl (s_getf (ci := 12) (j := 4) (C := RX12) (T := TX12) (N := 49) dX12_unit_58 rfl (by decide) (by decide) qf_X12_126 (s_iconst dX12_unit_61 (s_icne (tgt := 94) dX12_unit_62 (by decide) (s_ret dX12_unit_94 rfl) (s_aload_n dX12_unit_65 rfl (s_invB (w' := (g, d, ck, sk, xX12_unit, Q)) (ci := 12) (ck := 0) (sk := 0) (T := TX12) (N := 49) dX12_unit_66 m_X12_condition rfl (by decide) qm_X12_178 qi_X12_condition qe_X12_condition rfl (s_aload_n dX12_unit_69 rfl (s_bipush dX12_unit_70 rfl (s_invB (w' := (g, d, ck, sk, xX12_unit, Q)) (ci := 12) (ck := 0) (sk := 0) (T := TX12) (N := 49) dX12_unit_72 m_X12_closes rfl (by decide) qm_X12_162 qi_X12_closes qe_X12_closes rfl (s_goto (tgt := 94) dX12_unit_75 (by decide) (s_ret dX12_unit_94 rfl)))))))))))))))) (s_aload_n dX12_unit_11 rfl (s_invB (w' := (g, d, ck, sk, xX12_unit, Q)) (ci := 12) (ck := 0) (sk := 0) (T := TX12) (N := 49) dX12_unit_12 m_X12_opens rfl (by decide) qm_X12_156 qi_X12_opens qe_X12_opens rfl (s_aload_n dX12_unit_15 rfl (s_getf (ci := 12) (j := 4) (C := RX12) (T := TX12) (N := 49) dX12_unit_16 rfl (by decide) (by decide) qf_X12_126 (s_iconst dX12_unit_19 (s_icne (tgt := 94) dX12_unit_20 (by decide) (s_ret dX12_unit_94 rfl) (s_aload_n dX12_unit_23 rfl (s_invB (w' := (g, d, ck, sk, xX12_unit, Q)) (ci := 12) (ck := 0) (sk := 0) (T := TX12) (N := 49) dX12_unit_24 m_X12_unit rfl (by decide) qm_X12_175 qi_X12_unit qe_X12_unit rfl (s_aload_n dX12_unit_27 rfl (s_bipush dX12_unit_28 rfl (s_iconst dX12_unit_30 (s_invB (w' := (g, d, ck, sk, xX12_unit, Q)) (ci := 12) (ck := 0) (sk := 0) (T := TX12) (N := 49) dX12_unit_31 m_X12_put rfl (by decide) qm_X12_148 qi_X12_put qe_X12_put rfl (s_aload_n dX12_unit_34 rfl (s_dup dX12_unit_35 (s_getf (ci := 12) (j := 5) (C := RX12) (T := TX12) (N := 49) dX12_unit_36 rfl (by decide) (by decide) qf_X12_132 (s_iconst dX12_unit_39 (s_isub dX12_unit_40 (s_puti (ci := 12) (j := 5) (C := RX12) (T := TX12) (N := 49) dX12_unit_41 rfl (by decide) (by decide) rfl (tyX12_ok 5 (by decide)) qf_X12_132 (s_goto (tgt := 94) dX12_unit_44 (by decide) (s_ret dX12_unit_94 rfl)))))))))))))))))))))))))
