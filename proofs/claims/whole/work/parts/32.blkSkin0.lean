theorem dX11_refuse_0 : decode cX11_refuse 0 = .ok (.aload_n 0, 1) := by decide +kernel
theorem dX11_refuse_1 : decode cX11_refuse 1 = .ok (.getfield 78, 3) := by decide +kernel
theorem dX11_refuse_4 : decode cX11_refuse 4 = .ok (.iload_n 1, 1) := by decide +kernel
theorem dX11_refuse_5 : decode cX11_refuse 5 = .ok (.dup2, 1) := by decide +kernel
theorem dX11_refuse_6 : decode cX11_refuse 6 = .ok (.iaload, 1) := by decide +kernel
theorem dX11_refuse_7 : decode cX11_refuse 7 = .ok (.iconst 1, 1) := by decide +kernel
theorem dX11_refuse_8 : decode cX11_refuse 8 = .ok (.iadd, 1) := by decide +kernel
theorem dX11_refuse_9 : decode cX11_refuse 9 = .ok (.iastore, 1) := by decide +kernel
theorem dX11_refuse_10 : decode cX11_refuse 10 = .ok (.iconst (-1), 1) := by decide +kernel
theorem dX11_refuse_11 : decode cX11_refuse 11 = .ok (.ireturn, 1) := by decide +kernel
def kX11_refuse_0 (g : sk_G) (d ck sk : Nat) (Q : sk_P) : sk_K := o_aload 0 (o_getf 11 11 (o_iload 1 (o_dup2 (o_iaload (o_i (1) (o_iadd (o_iastore (o_i (-1) (o_iret (g, d, ck, sk, xX11_refuse, Q))))))))))
theorem tX11_refuse_0 {g : sk_G} {d ck sk : Nat} {Q : sk_P} : sk_S (g, d, ck, sk, xX11_refuse, Q) 0 (kX11_refuse_0 g d ck sk Q) := s_aload_n dX11_refuse_0 rfl (s_getf (ci := 11) (j := 11) (C := RX11) (T := TX11) (N := 17) dX11_refuse_1 rfl (by decide) (by decide) qf_X11_78 (s_iload_n dX11_refuse_4 rfl (s_dup2 dX11_refuse_5 (s_iaload dX11_refuse_6 (s_iconst dX11_refuse_7 (s_iadd dX11_refuse_8 (s_iastore dX11_refuse_9 (s_iconst dX11_refuse_10 (s_iret dX11_refuse_11 rfl)))))))))
theorem dX11_draw_0 : decode cX11_draw 0 = .ok (.aload_n 0, 1) := by decide +kernel
theorem dX11_draw_1 : decode cX11_draw 1 = .ok (.aload_n 0, 1) := by decide +kernel
theorem dX11_draw_2 : decode cX11_draw 2 = .ok (.getfield 239, 3) := by decide +kernel
theorem dX11_draw_5 : decode cX11_draw 5 = .ok (.ldc2_w 466, 3) := by decide +kernel
theorem dX11_draw_8 : decode cX11_draw 8 = .ok (.lmul, 1) := by decide +kernel
theorem dX11_draw_9 : decode cX11_draw 9 = .ok (.ldc2_w 468, 3) := by decide +kernel
theorem dX11_draw_12 : decode cX11_draw 12 = .ok (.ladd, 1) := by decide +kernel
theorem dX11_draw_13 : decode cX11_draw 13 = .ok (.putfield 239, 3) := by decide +kernel
theorem dX11_draw_16 : decode cX11_draw 16 = .ok (.iload_n 1, 1) := by decide +kernel
theorem dX11_draw_17 : decode cX11_draw 17 = .ok (.ifCond .gt 7, 3) := by decide +kernel
theorem dX11_draw_20 : decode cX11_draw 20 = .ok (.iconst 0, 1) := by decide +kernel
theorem dX11_draw_21 : decode cX11_draw 21 = .ok (.goto 14, 3) := by decide +kernel
theorem dX11_draw_24 : decode cX11_draw 24 = .ok (.aload_n 0, 1) := by decide +kernel
theorem dX11_draw_25 : decode cX11_draw 25 = .ok (.getfield 239, 3) := by decide +kernel
theorem dX11_draw_28 : decode cX11_draw 28 = .ok (.bipush 33, 2) := by decide +kernel
theorem dX11_draw_30 : decode cX11_draw 30 = .ok (.lushr, 1) := by decide +kernel
theorem dX11_draw_31 : decode cX11_draw 31 = .ok (.iload_n 1, 1) := by decide +kernel
theorem dX11_draw_32 : decode cX11_draw 32 = .ok (.i2l, 1) := by decide +kernel
theorem dX11_draw_33 : decode cX11_draw 33 = .ok (.lrem, 1) := by decide +kernel
theorem dX11_draw_34 : decode cX11_draw 34 = .ok (.l2i, 1) := by decide +kernel
theorem dX11_draw_35 : decode cX11_draw 35 = .ok (.ireturn, 1) := by decide +kernel
set_option maxRecDepth 20000 in
def kX11_draw_0 (g : sk_G) (d ck sk : Nat) (Q : sk_P) : sk_K := o_aload 0 (o_aload 0 (o_getf 11 16 (o_l (6364136223846793005) (o_lmul (o_l (1442695040888963407) (o_ladd (o_putl 11 16 (o_iload 1 (o_ifgt (o_aload 0 (o_getf 11 16 (o_i (33) (o_lushr (o_iload 1 (o_i2l (o_lrem (o_l2i (o_iret (g, d, ck, sk, xX11_draw, Q)))))))))) (o_i (0) (o_iret (g, d, ck, sk, xX11_draw, Q))))))))))))
set_option maxRecDepth 20000 in
theorem tX11_draw_0 {g : sk_G} {d ck sk : Nat} {Q : sk_P} : sk_S (g, d, ck, sk, xX11_draw, Q) 0 (kX11_draw_0 g d ck sk Q) := s_aload_n dX11_draw_0 rfl (s_aload_n dX11_draw_1 rfl (s_getf (ci := 11) (j := 16) (C := RX11) (T := TX11) (N := 17) dX11_draw_2 rfl (by decide) (by decide) qf_X11_239 (s_ldc2 dX11_draw_5 qk_X11_466 rfl (s_lmul dX11_draw_8 (s_ldc2 dX11_draw_9 qk_X11_468 rfl (s_ladd dX11_draw_12 (s_putl (ci := 11) (j := 16) (C := RX11) (T := TX11) (N := 17) dX11_draw_13 rfl (by decide) (by decide) rfl (tyX11_ok 16 (by decide)) qf_X11_239 (s_iload_n dX11_draw_16 rfl (s_ifgt (tgt := 24) dX11_draw_17 (by decide) (s_aload_n dX11_draw_24 rfl (s_getf (ci := 11) (j := 16) (C := RX11) (T := TX11) (N := 17) dX11_draw_25 rfl (by decide) (by decide) qf_X11_239 (s_bipush dX11_draw_28 rfl (s_lushr dX11_draw_30 (s_iload_n dX11_draw_31 rfl (s_i2l dX11_draw_32 (s_lrem dX11_draw_33 (s_l2i dX11_draw_34 (s_iret dX11_draw_35 rfl))))))))) (s_iconst dX11_draw_20 (s_goto (tgt := 35) dX11_draw_21 (by decide) (s_iret dX11_draw_35 rfl))))))))))))
theorem dX11_init_0 : decode cX11_init 0 = .ok (.aload_n 0, 1) := by decide +kernel
theorem dX11_init_1 : decode cX11_init 1 = .ok (.invokespecial 1, 3) := by decide +kernel
theorem dX11_init_4 : decode cX11_init 4 = .ok (.aload_n 0, 1) := by decide +kernel
theorem dX11_init_5 : decode cX11_init 5 = .ok (.new 7, 3) := by decide +kernel
theorem dX11_init_8 : decode cX11_init 8 = .ok (.dup, 1) := by decide +kernel
theorem dX11_init_9 : decode cX11_init 9 = .ok (.invokespecial 9, 3) := by decide +kernel
theorem dX11_init_12 : decode cX11_init 12 = .ok (.putfield 10, 3) := by decide +kernel
theorem dX11_init_15 : decode cX11_init 15 = .ok (.aload_n 0, 1) := by decide +kernel
theorem dX11_init_16 : decode cX11_init 16 = .ok (.new 16, 3) := by decide +kernel
theorem dX11_init_19 : decode cX11_init 19 = .ok (.dup, 1) := by decide +kernel
theorem dX11_init_20 : decode cX11_init 20 = .ok (.invokespecial 18, 3) := by decide +kernel
theorem dX11_init_23 : decode cX11_init 23 = .ok (.putfield 19, 3) := by decide +kernel
theorem dX11_init_26 : decode cX11_init 26 = .ok (.aload_n 0, 1) := by decide +kernel
theorem dX11_init_27 : decode cX11_init 27 = .ok (.new 16, 3) := by decide +kernel
theorem dX11_init_30 : decode cX11_init 30 = .ok (.dup, 1) := by decide +kernel
theorem dX11_init_31 : decode cX11_init 31 = .ok (.invokespecial 18, 3) := by decide +kernel
theorem dX11_init_34 : decode cX11_init 34 = .ok (.putfield 23, 3) := by decide +kernel
theorem dX11_init_37 : decode cX11_init 37 = .ok (.aload_n 0, 1) := by decide +kernel
theorem dX11_init_38 : decode cX11_init 38 = .ok (.new 26, 3) := by decide +kernel
theorem dX11_init_41 : decode cX11_init 41 = .ok (.dup, 1) := by decide +kernel
theorem dX11_init_42 : decode cX11_init 42 = .ok (.invokespecial 28, 3) := by decide +kernel
theorem dX11_init_45 : decode cX11_init 45 = .ok (.putfield 29, 3) := by decide +kernel
theorem dX11_init_48 : decode cX11_init 48 = .ok (.aload_n 0, 1) := by decide +kernel
theorem dX11_init_49 : decode cX11_init 49 = .ok (.new 33, 3) := by decide +kernel
theorem dX11_init_52 : decode cX11_init 52 = .ok (.dup, 1) := by decide +kernel
theorem dX11_init_53 : decode cX11_init 53 = .ok (.invokespecial 35, 3) := by decide +kernel
theorem dX11_init_56 : decode cX11_init 56 = .ok (.putfield 36, 3) := by decide +kernel
theorem dX11_init_59 : decode cX11_init 59 = .ok (.aload_n 0, 1) := by decide +kernel
theorem dX11_init_60 : decode cX11_init 60 = .ok (.new 33, 3) := by decide +kernel
theorem dX11_init_63 : decode cX11_init 63 = .ok (.dup, 1) := by decide +kernel
theorem dX11_init_64 : decode cX11_init 64 = .ok (.invokespecial 35, 3) := by decide +kernel
theorem dX11_init_67 : decode cX11_init 67 = .ok (.putfield 40, 3) := by decide +kernel
theorem dX11_init_70 : decode cX11_init 70 = .ok (.aload_n 0, 1) := by decide +kernel
theorem dX11_init_71 : decode cX11_init 71 = .ok (.new 43, 3) := by decide +kernel
theorem dX11_init_74 : decode cX11_init 74 = .ok (.dup, 1) := by decide +kernel
theorem dX11_init_75 : decode cX11_init 75 = .ok (.invokespecial 45, 3) := by decide +kernel
theorem dX11_init_78 : decode cX11_init 78 = .ok (.putfield 46, 3) := by decide +kernel
theorem dX11_init_81 : decode cX11_init 81 = .ok (.aload_n 0, 1) := by decide +kernel
theorem dX11_init_82 : decode cX11_init 82 = .ok (.new 50, 3) := by decide +kernel
theorem dX11_init_85 : decode cX11_init 85 = .ok (.dup, 1) := by decide +kernel
theorem dX11_init_86 : decode cX11_init 86 = .ok (.invokespecial 52, 3) := by decide +kernel
theorem dX11_init_89 : decode cX11_init 89 = .ok (.putfield 53, 3) := by decide +kernel
theorem dX11_init_92 : decode cX11_init 92 = .ok (.aload_n 0, 1) := by decide +kernel
theorem dX11_init_93 : decode cX11_init 93 = .ok (.new 57, 3) := by decide +kernel
theorem dX11_init_96 : decode cX11_init 96 = .ok (.dup, 1) := by decide +kernel
theorem dX11_init_97 : decode cX11_init 97 = .ok (.invokespecial 59, 3) := by decide +kernel
theorem dX11_init_100 : decode cX11_init 100 = .ok (.putfield 60, 3) := by decide +kernel
theorem dX11_init_103 : decode cX11_init 103 = .ok (.aload_n 0, 1) := by decide +kernel
theorem dX11_init_104 : decode cX11_init 104 = .ok (.new 64, 3) := by decide +kernel
theorem dX11_init_107 : decode cX11_init 107 = .ok (.dup, 1) := by decide +kernel
theorem dX11_init_108 : decode cX11_init 108 = .ok (.invokespecial 66, 3) := by decide +kernel
theorem dX11_init_111 : decode cX11_init 111 = .ok (.putfield 67, 3) := by decide +kernel
theorem dX11_init_114 : decode cX11_init 114 = .ok (.aload_n 0, 1) := by decide +kernel
theorem dX11_init_115 : decode cX11_init 115 = .ok (.new 71, 3) := by decide +kernel
theorem dX11_init_118 : decode cX11_init 118 = .ok (.dup, 1) := by decide +kernel
theorem dX11_init_119 : decode cX11_init 119 = .ok (.invokespecial 73, 3) := by decide +kernel
theorem dX11_init_122 : decode cX11_init 122 = .ok (.putfield 74, 3) := by decide +kernel
theorem dX11_init_125 : decode cX11_init 125 = .ok (.aload_n 0, 1) := by decide +kernel
theorem dX11_init_126 : decode cX11_init 126 = .ok (.iconst 5, 1) := by decide +kernel
theorem dX11_init_127 : decode cX11_init 127 = .ok (.newarray .int, 2) := by decide +kernel
theorem dX11_init_129 : decode cX11_init 129 = .ok (.putfield 78, 3) := by decide +kernel
theorem dX11_init_132 : decode cX11_init 132 = .ok (.aload_n 0, 1) := by decide +kernel
theorem dX11_init_133 : decode cX11_init 133 = .ok (.sipush 1080, 3) := by decide +kernel
theorem dX11_init_136 : decode cX11_init 136 = .ok (.newarray .int, 2) := by decide +kernel
theorem dX11_init_138 : decode cX11_init 138 = .ok (.putfield 82, 3) := by decide +kernel
theorem dX11_init_141 : decode cX11_init 141 = .ok (.aload_n 0, 1) := by decide +kernel
theorem dX11_init_142 : decode cX11_init 142 = .ok (.iconst 4, 1) := by decide +kernel
theorem dX11_init_143 : decode cX11_init 143 = .ok (.newarray .int, 2) := by decide +kernel
theorem dX11_init_145 : decode cX11_init 145 = .ok (.putfield 85, 3) := by decide +kernel
theorem dX11_init_148 : decode cX11_init 148 = .ok (.aload_n 0, 1) := by decide +kernel
theorem dX11_init_149 : decode cX11_init 149 = .ok (.bipush 12, 2) := by decide +kernel
theorem dX11_init_151 : decode cX11_init 151 = .ok (.newarray .int, 2) := by decide +kernel
theorem dX11_init_153 : decode cX11_init 153 = .ok (.putfield 88, 3) := by decide +kernel
theorem dX11_init_156 : decode cX11_init 156 = .ok (.aload_n 0, 1) := by decide +kernel
theorem dX11_init_157 : decode cX11_init 157 = .ok (.iconst 4, 1) := by decide +kernel
theorem dX11_init_158 : decode cX11_init 158 = .ok (.putfield 91, 3) := by decide +kernel
theorem dX11_init_161 : decode cX11_init 161 = .ok (.return_, 1) := by decide +kernel
set_option maxRecDepth 20000 in
def kX11_init_0 (g : sk_G) (d ck sk : Nat) (Q : sk_P) : sk_K := o_aload 0 (o_obj (g, d, ck, sk, xX11_init, Q) (o_aload 0 (o_new (g, d, ck, sk, xX11_init, Q) 9 3 [.inr (.inr none), .inl 0, .inl 0] (o_dup (o_iniB (g, d, ck - 1, sk - 3, xX11_init, Q) xX9_init 0 1 240 (o_puta 11 0 (o_aload 0 (o_new (g, d, ck - 1 - 1, sk - 3 - 240, xX11_init, Q) 7 4 [.inr (.inr none), .inr (.inr none), .inl 0, .inl 0] (o_dup (o_iniB (g, d, ck - 1 - 1 - 1, sk - 3 - 240 - 4, xX11_init, Q) xX7_init 0 2 12 (o_puta 11 1 (o_aload 0 (o_new (g, d, ck - 1 - 1 - 1 - 2, sk - 3 - 240 - 4 - 12, xX11_init, Q) 7 4 [.inr (.inr none), .inr (.inr none), .inl 0, .inl 0] (o_dup (o_iniB (g, d, ck - 1 - 1 - 1 - 2 - 1, sk - 3 - 240 - 4 - 12 - 4, xX11_init, Q) xX7_init 0 2 12 (o_puta 11 2 (o_aload 0 (o_new (g, d, ck - 1 - 1 - 1 - 2 - 1 - 2, sk - 3 - 240 - 4 - 12 - 4 - 12, xX11_init, Q) 8 7 [.inr (.inr none), .inr (.inr none), .inr (.inr none), .inr (.inr none), .inl 0, .inl 0, .inl 0] (o_dup (o_iniB (g, d, ck - 1 - 1 - 1 - 2 - 1 - 2 - 1, sk - 3 - 240 - 4 - 12 - 4 - 12 - 7, xX11_init, Q) xX8_init 0 12 358 (o_puta 11 3 (o_aload 0 (o_new (g, d, ck - 1 - 1 - 1 - 2 - 1 - 2 - 1 - 12, sk - 3 - 240 - 4 - 12 - 4 - 12 - 7 - 358, xX11_init, Q) 5 6 [.inr (.inr none), .inr (.inr none), .inl 0, .inl 0, .inl 0, .inl 0] (o_dup (o_iniB (g, d, ck - 1 - 1 - 1 - 2 - 1 - 2 - 1 - 12 - 1, sk - 3 - 240 - 4 - 12 - 4 - 12 - 7 - 358 - 6, xX11_init, Q) xX5_init 0 2 280 (o_puta 11 4 (o_aload 0 (o_new (g, d, ck - 1 - 1 - 1 - 2 - 1 - 2 - 1 - 12 - 1 - 2, sk - 3 - 240 - 4 - 12 - 4 - 12 - 7 - 358 - 6 - 280, xX11_init, Q) 5 6 [.inr (.inr none), .inr (.inr none), .inl 0, .inl 0, .inl 0, .inl 0] (o_dup (o_iniB (g, d, ck - 1 - 1 - 1 - 2 - 1 - 2 - 1 - 12 - 1 - 2 - 1, sk - 3 - 240 - 4 - 12 - 4 - 12 - 7 - 358 - 6 - 280 - 6, xX11_init, Q) xX5_init 0 2 280 (o_puta 11 5 (o_aload 0 (o_new (g, d, ck - 1 - 1 - 1 - 2 - 1 - 2 - 1 - 12 - 1 - 2 - 1 - 2, sk - 3 - 240 - 4 - 12 - 4 - 12 - 7 - 358 - 6 - 280 - 6 - 280, xX11_init, Q) 2 1 [.inr (.inr none)] (o_dup (o_iniB (g, d, ck - 1 - 1 - 1 - 2 - 1 - 2 - 1 - 12 - 1 - 2 - 1 - 2 - 1, sk - 3 - 240 - 4 - 12 - 4 - 12 - 7 - 358 - 6 - 280 - 6 - 280 - 1, xX11_init, Q) xX2_init 0 1 300 (o_puta 11 6 (o_aload 0 (o_new (g, d, ck - 1 - 1 - 1 - 2 - 1 - 2 - 1 - 12 - 1 - 2 - 1 - 2 - 1 - 1, sk - 3 - 240 - 4 - 12 - 4 - 12 - 7 - 358 - 6 - 280 - 6 - 280 - 1 - 300, xX11_init, Q) 0 6 [.inr (.inr none), .inl 0, .inl 0, .inr (.inr none), .inr (.inr none), .inl 0] (o_dup (o_iniB (g, d, ck - 1 - 1 - 1 - 2 - 1 - 2 - 1 - 12 - 1 - 2 - 1 - 2 - 1 - 1 - 1, sk - 3 - 240 - 4 - 12 - 4 - 12 - 7 - 358 - 6 - 280 - 6 - 280 - 1 - 300 - 6, xX11_init, Q) xX0_init 0 6 627 (o_puta 11 7 (o_aload 0 (o_new (g, d, ck - 1 - 1 - 1 - 2 - 1 - 2 - 1 - 12 - 1 - 2 - 1 - 2 - 1 - 1 - 1 - 6, sk - 3 - 240 - 4 - 12 - 4 - 12 - 7 - 358 - 6 - 280 - 6 - 280 - 1 - 300 - 6 - 627, xX11_init, Q) 4 4 [.inr (.inr none), .inr (.inr none), .inr (.inr none), .inl 0] (o_dup (o_iniB (g, d, ck - 1 - 1 - 1 - 2 - 1 - 2 - 1 - 12 - 1 - 2 - 1 - 2 - 1 - 1 - 1 - 6 - 1, sk - 3 - 240 - 4 - 12 - 4 - 12 - 7 - 358 - 6 - 280 - 6 - 280 - 1 - 300 - 6 - 627 - 4, xX11_init, Q) xX4_init 0 3 30 (o_puta 11 8 (o_aload 0 (o_new (g, d, ck - 1 - 1 - 1 - 2 - 1 - 2 - 1 - 12 - 1 - 2 - 1 - 2 - 1 - 1 - 1 - 6 - 1 - 3, sk - 3 - 240 - 4 - 12 - 4 - 12 - 7 - 358 - 6 - 280 - 6 - 280 - 1 - 300 - 6 - 627 - 4 - 30, xX11_init, Q) 3 5 [.inr (.inr none), .inr (.inr none), .inr (.inr none), .inr (.inr none), .inl 0] (o_dup (o_iniB (g, d, ck - 1 - 1 - 1 - 2 - 1 - 2 - 1 - 12 - 1 - 2 - 1 - 2 - 1 - 1 - 1 - 6 - 1 - 3 - 1, sk - 3 - 240 - 4 - 12 - 4 - 12 - 7 - 358 - 6 - 280 - 6 - 280 - 1 - 300 - 6 - 627 - 4 - 30 - 5, xX11_init, Q) xX3_init 0 4 65 (o_puta 11 9 (o_aload 0 (o_new (g, d, ck - 1 - 1 - 1 - 2 - 1 - 2 - 1 - 12 - 1 - 2 - 1 - 2 - 1 - 1 - 1 - 6 - 1 - 3 - 1 - 4, sk - 3 - 240 - 4 - 12 - 4 - 12 - 7 - 358 - 6 - 280 - 6 - 280 - 1 - 300 - 6 - 627 - 4 - 30 - 5 - 65, xX11_init, Q) 6 4 [.inr (.inr none), .inr (.inr none), .inl 0, .inl 0] (o_dup (o_iniB (g, d, ck - 1 - 1 - 1 - 2 - 1 - 2 - 1 - 12 - 1 - 2 - 1 - 2 - 1 - 1 - 1 - 6 - 1 - 3 - 1 - 4 - 1, sk - 3 - 240 - 4 - 12 - 4 - 12 - 7 - 358 - 6 - 280 - 6 - 280 - 1 - 300 - 6 - 627 - 4 - 30 - 5 - 65 - 4, xX11_init, Q) xX6_init 0 2 42 (o_puta 11 10 (o_aload 0 (o_i (5) (o_newa (g, d, ck - 1 - 1 - 1 - 2 - 1 - 2 - 1 - 12 - 1 - 2 - 1 - 2 - 1 - 1 - 1 - 6 - 1 - 3 - 1 - 4 - 1 - 2, sk - 3 - 240 - 4 - 12 - 4 - 12 - 7 - 358 - 6 - 280 - 6 - 280 - 1 - 300 - 6 - 627 - 4 - 30 - 5 - 65 - 4 - 42, xX11_init, Q) 20 5 (sk_I (fun _ => 0)) (o_puta 11 11 (o_aload 0 (o_i (1080) (o_newa (g, d, ck - 1 - 1 - 1 - 2 - 1 - 2 - 1 - 12 - 1 - 2 - 1 - 2 - 1 - 1 - 1 - 6 - 1 - 3 - 1 - 4 - 1 - 2 - 1, sk - 3 - 240 - 4 - 12 - 4 - 12 - 7 - 358 - 6 - 280 - 6 - 280 - 1 - 300 - 6 - 627 - 4 - 30 - 5 - 65 - 4 - 42 - 5, xX11_init, Q) 20 1080 (sk_I (fun _ => 0)) (o_puta 11 12 (o_aload 0 (o_i (4) (o_newa (g, d, ck - 1 - 1 - 1 - 2 - 1 - 2 - 1 - 12 - 1 - 2 - 1 - 2 - 1 - 1 - 1 - 6 - 1 - 3 - 1 - 4 - 1 - 2 - 1 - 1, sk - 3 - 240 - 4 - 12 - 4 - 12 - 7 - 358 - 6 - 280 - 6 - 280 - 1 - 300 - 6 - 627 - 4 - 30 - 5 - 65 - 4 - 42 - 5 - 1080, xX11_init, Q) 20 4 (sk_I (fun _ => 0)) (o_puta 11 13 (o_aload 0 (o_i (12) (o_newa (g, d, ck - 1 - 1 - 1 - 2 - 1 - 2 - 1 - 12 - 1 - 2 - 1 - 2 - 1 - 1 - 1 - 6 - 1 - 3 - 1 - 4 - 1 - 2 - 1 - 1 - 1, sk - 3 - 240 - 4 - 12 - 4 - 12 - 7 - 358 - 6 - 280 - 6 - 280 - 1 - 300 - 6 - 627 - 4 - 30 - 5 - 65 - 4 - 42 - 5 - 1080 - 4, xX11_init, Q) 20 12 (sk_I (fun _ => 0)) (o_puta 11 14 (o_aload 0 (o_i (4) (o_puti 11 15 (o_ret (g, d, ck - 1 - 1 - 1 - 2 - 1 - 2 - 1 - 12 - 1 - 2 - 1 - 2 - 1 - 1 - 1 - 6 - 1 - 3 - 1 - 4 - 1 - 2 - 1 - 1 - 1 - 1, sk - 3 - 240 - 4 - 12 - 4 - 12 - 7 - 358 - 6 - 280 - 6 - 280 - 1 - 300 - 6 - 627 - 4 - 30 - 5 - 65 - 4 - 42 - 5 - 1080 - 4 - 12, xX11_init, Q)))))))))))))))))))))))))))))))))))))))))))))))))))))))))))))))))))))))))))))
set_option maxRecDepth 20000 in
theorem tX11_init_0 {g : sk_G} {d ck sk : Nat} {Q : sk_P} : sk_S (g, d, ck, sk, xX11_init, Q) 0 (kX11_init_0 g d ck sk Q) := s_aload_n dX11_init_0 rfl (s_obj dX11_init_1 qm_X11_1 qi_obj qc_obj (s_aload_n dX11_init_4 rfl (s_new (w' := (g, d, ck - 1, sk - 3, xX11_init, Q)) (ci := 9) (N := 3) (C := RX9) (T := TX9) (ty := tyX9) dX11_init_5 rfl (by decide) tyX9_ok (by decide) (by decide) ql_X11_7 qa_X9 qz_X9 rfl (s_dup dX11_init_8 (s_iniN (w' := (g, d, ck - 1 - 1, sk - 3 - 240, xX11_init, Q)) (ck := 1) (sk := 240) dX11_init_9 m_X9_init rfl rfl qmn_X11_9 qi_X9_init rfl (s_putaF (ci := 11) (j := 0) (C := RX11) (T := TX11) (N := 17) dX11_init_12 rfl (by decide) (by decide) rfl rfl rfl (Or.inl ⟨_, rfl⟩) (tyX11_ok 0 (by decide)) qf_X11_10 (s_aload_n dX11_init_15 rfl (s_new (w' := (g, d, ck - 1 - 1 - 1, sk - 3 - 240 - 4, xX11_init, Q)) (ci := 7) (N := 4) (C := RX7) (T := TX7) (ty := tyX7) dX11_init_16 rfl (by decide) tyX7_ok (by decide) (by decide) ql_X11_16 qa_X7 qz_X7 rfl (s_dup dX11_init_19 (s_iniN (w' := (g, d, ck - 1 - 1 - 1 - 2, sk - 3 - 240 - 4 - 12, xX11_init, Q)) (ck := 2) (sk := 12) dX11_init_20 m_X7_init rfl rfl qmn_X11_18 qi_X7_init rfl (s_puta (ci := 11) (j := 1) (C := RX11) (T := TX11) (N := 17) dX11_init_23 rfl (by decide) (by decide) rfl (Or.inl ⟨_, rfl⟩) (tyX11_ok 1 (by decide)) qf_X11_19 (s_aload_n dX11_init_26 rfl (s_new (w' := (g, d, ck - 1 - 1 - 1 - 2 - 1, sk - 3 - 240 - 4 - 12 - 4, xX11_init, Q)) (ci := 7) (N := 4) (C := RX7) (T := TX7) (ty := tyX7) dX11_init_27 rfl (by decide) tyX7_ok (by decide) (by decide) ql_X11_16 qa_X7 qz_X7 rfl (s_dup dX11_init_30 (s_iniN (w' := (g, d, ck - 1 - 1 - 1 - 2 - 1 - 2, sk - 3 - 240 - 4 - 12 - 4 - 12, xX11_init, Q)) (ck := 2) (sk := 12) dX11_init_31 m_X7_init rfl rfl qmn_X11_18 qi_X7_init rfl (s_puta (ci := 11) (j := 2) (C := RX11) (T := TX11) (N := 17) dX11_init_34 rfl (by decide) (by decide) rfl (Or.inl ⟨_, rfl⟩) (tyX11_ok 2 (by decide)) qf_X11_23 (s_aload_n dX11_init_37 rfl (s_new (w' := (g, d, ck - 1 - 1 - 1 - 2 - 1 - 2 - 1, sk - 3 - 240 - 4 - 12 - 4 - 12 - 7, xX11_init, Q)) (ci := 8) (N := 7) (C := RX8) (T := TX8) (ty := tyX8) dX11_init_38 rfl (by decide) tyX8_ok (by decide) (by decide) ql_X11_26 qa_X8 qz_X8 rfl (s_dup dX11_init_41 (s_iniN (w' := (g, d, ck - 1 - 1 - 1 - 2 - 1 - 2 - 1 - 12, sk - 3 - 240 - 4 - 12 - 4 - 12 - 7 - 358, xX11_init, Q)) (ck := 12) (sk := 358) dX11_init_42 m_X8_init rfl rfl qmn_X11_28 qi_X8_init rfl (s_putaF (ci := 11) (j := 3) (C := RX11) (T := TX11) (N := 17) dX11_init_45 rfl (by decide) (by decide) rfl rfl rfl (Or.inl ⟨_, rfl⟩) (tyX11_ok 3 (by decide)) qf_X11_29 (s_aload_n dX11_init_48 rfl (s_new (w' := (g, d, ck - 1 - 1 - 1 - 2 - 1 - 2 - 1 - 12 - 1, sk - 3 - 240 - 4 - 12 - 4 - 12 - 7 - 358 - 6, xX11_init, Q)) (ci := 5) (N := 6) (C := RX5) (T := TX5) (ty := tyX5) dX11_init_49 rfl (by decide) tyX5_ok (by decide) (by decide) ql_X11_33 qa_X5 qz_X5 rfl (s_dup dX11_init_52 (s_iniN (w' := (g, d, ck - 1 - 1 - 1 - 2 - 1 - 2 - 1 - 12 - 1 - 2, sk - 3 - 240 - 4 - 12 - 4 - 12 - 7 - 358 - 6 - 280, xX11_init, Q)) (ck := 2) (sk := 280) dX11_init_53 m_X5_init rfl rfl qmn_X11_35 qi_X5_init rfl (s_putaF (ci := 11) (j := 4) (C := RX11) (T := TX11) (N := 17) dX11_init_56 rfl (by decide) (by decide) rfl rfl rfl (Or.inl ⟨_, rfl⟩) (tyX11_ok 4 (by decide)) qf_X11_36 (s_aload_n dX11_init_59 rfl (s_new (w' := (g, d, ck - 1 - 1 - 1 - 2 - 1 - 2 - 1 - 12 - 1 - 2 - 1, sk - 3 - 240 - 4 - 12 - 4 - 12 - 7 - 358 - 6 - 280 - 6, xX11_init, Q)) (ci := 5) (N := 6) (C := RX5) (T := TX5) (ty := tyX5) dX11_init_60 rfl (by decide) tyX5_ok (by decide) (by decide) ql_X11_33 qa_X5 qz_X5 rfl (s_dup dX11_init_63 (s_iniN (w' := (g, d, ck - 1 - 1 - 1 - 2 - 1 - 2 - 1 - 12 - 1 - 2 - 1 - 2, sk - 3 - 240 - 4 - 12 - 4 - 12 - 7 - 358 - 6 - 280 - 6 - 280, xX11_init, Q)) (ck := 2) (sk := 280) dX11_init_64 m_X5_init rfl rfl qmn_X11_35 qi_X5_init rfl (s_putaF (ci := 11) (j := 5) (C := RX11) (T := TX11) (N := 17) dX11_init_67 rfl (by decide) (by decide) rfl rfl rfl (Or.inl ⟨_, rfl⟩) (tyX11_ok 5 (by decide)) qf_X11_40 (s_aload_n dX11_init_70 rfl (s_new (w' := (g, d, ck - 1 - 1 - 1 - 2 - 1 - 2 - 1 - 12 - 1 - 2 - 1 - 2 - 1, sk - 3 - 240 - 4 - 12 - 4 - 12 - 7 - 358 - 6 - 280 - 6 - 280 - 1, xX11_init, Q)) (ci := 2) (N := 1) (C := RX2) (T := TX2) (ty := tyX2) dX11_init_71 rfl (by decide) tyX2_ok (by decide) (by decide) ql_X11_43 qa_X2 qz_X2 rfl (s_dup dX11_init_74 (s_iniN (w' := (g, d, ck - 1 - 1 - 1 - 2 - 1 - 2 - 1 - 12 - 1 - 2 - 1 - 2 - 1 - 1, sk - 3 - 240 - 4 - 12 - 4 - 12 - 7 - 358 - 6 - 280 - 6 - 280 - 1 - 300, xX11_init, Q)) (ck := 1) (sk := 300) dX11_init_75 m_X2_init rfl rfl qmn_X11_45 qi_X2_init rfl (s_putaF (ci := 11) (j := 6) (C := RX11) (T := TX11) (N := 17) dX11_init_78 rfl (by decide) (by decide) rfl rfl rfl (Or.inl ⟨_, rfl⟩) (tyX11_ok 6 (by decide)) qf_X11_46 (s_aload_n dX11_init_81 rfl (s_new (w' := (g, d, ck - 1 - 1 - 1 - 2 - 1 - 2 - 1 - 12 - 1 - 2 - 1 - 2 - 1 - 1 - 1, sk - 3 - 240 - 4 - 12 - 4 - 12 - 7 - 358 - 6 - 280 - 6 - 280 - 1 - 300 - 6, xX11_init, Q)) (ci := 0) (N := 6) (C := RX0) (T := TX0) (ty := tyX0) dX11_init_82 rfl (by decide) tyX0_ok (by decide) (by decide) ql_X11_50 qa_X0 qz_X0 rfl (s_dup dX11_init_85 (s_iniN (w' := (g, d, ck - 1 - 1 - 1 - 2 - 1 - 2 - 1 - 12 - 1 - 2 - 1 - 2 - 1 - 1 - 1 - 6, sk - 3 - 240 - 4 - 12 - 4 - 12 - 7 - 358 - 6 - 280 - 6 - 280 - 1 - 300 - 6 - 627, xX11_init, Q)) (ck := 6) (sk := 627) dX11_init_86 m_X0_init rfl rfl qmn_X11_52 qi_X0_init rfl (s_putaF (ci := 11) (j := 7) (C := RX11) (T := TX11) (N := 17) dX11_init_89 rfl (by decide) (by decide) rfl rfl rfl (Or.inl ⟨_, rfl⟩) (tyX11_ok 7 (by decide)) qf_X11_53 (s_aload_n dX11_init_92 rfl (s_new (w' := (g, d, ck - 1 - 1 - 1 - 2 - 1 - 2 - 1 - 12 - 1 - 2 - 1 - 2 - 1 - 1 - 1 - 6 - 1, sk - 3 - 240 - 4 - 12 - 4 - 12 - 7 - 358 - 6 - 280 - 6 - 280 - 1 - 300 - 6 - 627 - 4, xX11_init, Q)) (ci := 4) (N := 4) (C := RX4) (T := TX4) (ty := tyX4) dX11_init_93 rfl (by decide) tyX4_ok (by decide) (by decide) ql_X11_57 qa_X4 qz_X4 rfl (s_dup dX11_init_96 (s_iniN (w' := (g, d, ck - 1 - 1 - 1 - 2 - 1 - 2 - 1 - 12 - 1 - 2 - 1 - 2 - 1 - 1 - 1 - 6 - 1 - 3, sk - 3 - 240 - 4 - 12 - 4 - 12 - 7 - 358 - 6 - 280 - 6 - 280 - 1 - 300 - 6 - 627 - 4 - 30, xX11_init, Q)) (ck := 3) (sk := 30) dX11_init_97 m_X4_init rfl rfl qmn_X11_59 qi_X4_init rfl (s_putaF (ci := 11) (j := 8) (C := RX11) (T := TX11) (N := 17) dX11_init_100 rfl (by decide) (by decide) rfl rfl rfl (Or.inl ⟨_, rfl⟩) (tyX11_ok 8 (by decide)) qf_X11_60 (s_aload_n dX11_init_103 rfl (s_new (w' := (g, d, ck - 1 - 1 - 1 - 2 - 1 - 2 - 1 - 12 - 1 - 2 - 1 - 2 - 1 - 1 - 1 - 6 - 1 - 3 - 1, sk - 3 - 240 - 4 - 12 - 4 - 12 - 7 - 358 - 6 - 280 - 6 - 280 - 1 - 300 - 6 - 627 - 4 - 30 - 5, xX11_init, Q)) (ci := 3) (N := 5) (C := RX3) (T := TX3) (ty := tyX3) dX11_init_104 rfl (by decide) tyX3_ok (by decide) (by decide) ql_X11_64 qa_X3 qz_X3 rfl (s_dup dX11_init_107 (s_iniN (w' := (g, d, ck - 1 - 1 - 1 - 2 - 1 - 2 - 1 - 12 - 1 - 2 - 1 - 2 - 1 - 1 - 1 - 6 - 1 - 3 - 1 - 4, sk - 3 - 240 - 4 - 12 - 4 - 12 - 7 - 358 - 6 - 280 - 6 - 280 - 1 - 300 - 6 - 627 - 4 - 30 - 5 - 65, xX11_init, Q)) (ck := 4) (sk := 65) dX11_init_108 m_X3_init rfl rfl qmn_X11_66 qi_X3_init rfl (s_putaF (ci := 11) (j := 9) (C := RX11) (T := TX11) (N := 17) dX11_init_111 rfl (by decide) (by decide) rfl rfl rfl (Or.inl ⟨_, rfl⟩) (tyX11_ok 9 (by decide)) qf_X11_67 (s_aload_n dX11_init_114 rfl (s_new (w' := (g, d, ck - 1 - 1 - 1 - 2 - 1 - 2 - 1 - 12 - 1 - 2 - 1 - 2 - 1 - 1 - 1 - 6 - 1 - 3 - 1 - 4 - 1, sk - 3 - 240 - 4 - 12 - 4 - 12 - 7 - 358 - 6 - 280 - 6 - 280 - 1 - 300 - 6 - 627 - 4 - 30 - 5 - 65 - 4, xX11_init, Q)) (ci := 6) (N := 4) (C := RX6) (T := TX6) (ty := tyX6) dX11_init_115 rfl (by decide) tyX6_ok (by decide) (by decide) ql_X11_71 qa_X6 qz_X6 rfl (s_dup dX11_init_118 (s_iniN (w' := (g, d, ck - 1 - 1 - 1 - 2 - 1 - 2 - 1 - 12 - 1 - 2 - 1 - 2 - 1 - 1 - 1 - 6 - 1 - 3 - 1 - 4 - 1 - 2, sk - 3 - 240 - 4 - 12 - 4 - 12 - 7 - 358 - 6 - 280 - 6 - 280 - 1 - 300 - 6 - 627 - 4 - 30 - 5 - 65 - 4 - 42, xX11_init, Q)) (ck := 2) (sk := 42) dX11_init_119 m_X6_init rfl rfl qmn_X11_73 qi_X6_init rfl (s_putaF (ci := 11) (j := 10) (C := RX11) (T := TX11) (N := 17) dX11_init_122 rfl (by decide) (by decide) rfl rfl rfl (Or.inl ⟨_, rfl⟩) (tyX11_ok 10 (by decide)) qf_X11_74 (s_aload_n dX11_init_125 rfl (s_iconst dX11_init_126 (s_newI (w' := (g, d, ck - 1 - 1 - 1 - 2 - 1 - 2 - 1 - 12 - 1 - 2 - 1 - 2 - 1 - 1 - 1 - 6 - 1 - 3 - 1 - 4 - 1 - 2 - 1, sk - 3 - 240 - 4 - 12 - 4 - 12 - 7 - 358 - 6 - 280 - 6 - 280 - 1 - 300 - 6 - 627 - 4 - 30 - 5 - 65 - 4 - 42 - 5, xX11_init, Q)) (N := 5) dX11_init_127 (by decide) qr_int rfl (s_putaF (ci := 11) (j := 11) (C := RX11) (T := TX11) (N := 17) dX11_init_129 rfl (by decide) (by decide) rfl rfl rfl (Or.inr ⟨_, rfl⟩) (tyX11_ok 11 (by decide)) qf_X11_78 (s_aload_n dX11_init_132 rfl (s_sipush dX11_init_133 rfl (s_newI (w' := (g, d, ck - 1 - 1 - 1 - 2 - 1 - 2 - 1 - 12 - 1 - 2 - 1 - 2 - 1 - 1 - 1 - 6 - 1 - 3 - 1 - 4 - 1 - 2 - 1 - 1, sk - 3 - 240 - 4 - 12 - 4 - 12 - 7 - 358 - 6 - 280 - 6 - 280 - 1 - 300 - 6 - 627 - 4 - 30 - 5 - 65 - 4 - 42 - 5 - 1080, xX11_init, Q)) (N := 1080) dX11_init_136 (by decide) qr_int rfl (s_putaF (ci := 11) (j := 12) (C := RX11) (T := TX11) (N := 17) dX11_init_138 rfl (by decide) (by decide) rfl rfl rfl (Or.inr ⟨_, rfl⟩) (tyX11_ok 12 (by decide)) qf_X11_82 (s_aload_n dX11_init_141 rfl (s_iconst dX11_init_142 (s_newI (w' := (g, d, ck - 1 - 1 - 1 - 2 - 1 - 2 - 1 - 12 - 1 - 2 - 1 - 2 - 1 - 1 - 1 - 6 - 1 - 3 - 1 - 4 - 1 - 2 - 1 - 1 - 1, sk - 3 - 240 - 4 - 12 - 4 - 12 - 7 - 358 - 6 - 280 - 6 - 280 - 1 - 300 - 6 - 627 - 4 - 30 - 5 - 65 - 4 - 42 - 5 - 1080 - 4, xX11_init, Q)) (N := 4) dX11_init_143 (by decide) qr_int rfl (s_putaF (ci := 11) (j := 13) (C := RX11) (T := TX11) (N := 17) dX11_init_145 rfl (by decide) (by decide) rfl rfl rfl (Or.inr ⟨_, rfl⟩) (tyX11_ok 13 (by decide)) qf_X11_85 (s_aload_n dX11_init_148 rfl (s_bipush dX11_init_149 rfl (s_newI (w' := (g, d, ck - 1 - 1 - 1 - 2 - 1 - 2 - 1 - 12 - 1 - 2 - 1 - 2 - 1 - 1 - 1 - 6 - 1 - 3 - 1 - 4 - 1 - 2 - 1 - 1 - 1 - 1, sk - 3 - 240 - 4 - 12 - 4 - 12 - 7 - 358 - 6 - 280 - 6 - 280 - 1 - 300 - 6 - 627 - 4 - 30 - 5 - 65 - 4 - 42 - 5 - 1080 - 4 - 12, xX11_init, Q)) (N := 12) dX11_init_151 (by decide) qr_int rfl (s_putaF (ci := 11) (j := 14) (C := RX11) (T := TX11) (N := 17) dX11_init_153 rfl (by decide) (by decide) rfl rfl rfl (Or.inr ⟨_, rfl⟩) (tyX11_ok 14 (by decide)) qf_X11_88 (s_aload_n dX11_init_156 rfl (s_iconst dX11_init_157 (s_puti (ci := 11) (j := 15) (C := RX11) (T := TX11) (N := 17) dX11_init_158 rfl (by decide) (by decide) rfl (tyX11_ok 15 (by decide)) qf_X11_91 (s_ret dX11_init_161 rfl))))))))))))))))))))))))))))))))))))))))))))))))))))))))))))))))))))))))))))
theorem dX11_feed_0 : decode cX11_feed 0 = .ok (.aload_n 0, 1) := by decide +kernel
theorem dX11_feed_1 : decode cX11_feed 1 = .ok (.getfield 10, 3) := by decide +kernel
theorem dX11_feed_4 : decode cX11_feed 4 = .ok (.iload_n 1, 1) := by decide +kernel
theorem dX11_feed_5 : decode cX11_feed 5 = .ok (.iload_n 2, 1) := by decide +kernel
theorem dX11_feed_6 : decode cX11_feed 6 = .ok (.iload_n 3, 1) := by decide +kernel
theorem dX11_feed_7 : decode cX11_feed 7 = .ok (.iload 4, 2) := by decide +kernel
theorem dX11_feed_9 : decode cX11_feed 9 = .ok (.iload 5, 2) := by decide +kernel
theorem dX11_feed_11 : decode cX11_feed 11 = .ok (.invokevirtual 95, 3) := by decide +kernel
theorem dX11_feed_14 : decode cX11_feed 14 = .ok (.ireturn, 1) := by decide +kernel
def kX11_feed_0 (g : sk_G) (d ck sk : Nat) (Q : sk_P) : sk_K := o_aload 0 (o_getf 11 0 (o_iload 1 (o_iload 2 (o_iload 3 (o_iload 4 (o_iload 5 (o_invB (g, d, ck, sk, xX11_feed, Q) xX9_take 5 9 0 0 (o_iret (g, d, ck, sk, xX11_feed, Q)))))))))
theorem tX11_feed_0 {g : sk_G} {d ck sk : Nat} {Q : sk_P} : sk_S (g, d, ck, sk, xX11_feed, Q) 0 (kX11_feed_0 g d ck sk Q) := s_aload_n dX11_feed_0 rfl (s_getf (ci := 11) (j := 0) (C := RX11) (T := TX11) (N := 17) dX11_feed_1 rfl (by decide) (by decide) qf_X11_10 (s_iload_n dX11_feed_4 rfl (s_iload_n dX11_feed_5 rfl (s_iload_n dX11_feed_6 rfl (s_iload dX11_feed_7 (s_iload dX11_feed_9 (s_invB (w' := (g, d, ck, sk, xX11_feed, Q)) (ci := 9) (ck := 0) (sk := 0) (T := TX9) (N := 3) dX11_feed_11 m_X9_take rfl (by decide) qm_X11_95 qi_X9_take qe_X9_take rfl (s_iret dX11_feed_14 rfl))))))))
theorem dX11_end_0 : decode cX11_end 0 = .ok (.aload_n 0, 1) := by decide +kernel
theorem dX11_end_1 : decode cX11_end 1 = .ok (.getfield 10, 3) := by decide +kernel
theorem dX11_end_4 : decode cX11_end 4 = .ok (.iload_n 1, 1) := by decide +kernel
theorem dX11_end_5 : decode cX11_end 5 = .ok (.invokevirtual 99, 3) := by decide +kernel
theorem dX11_end_8 : decode cX11_end 8 = .ok (.ireturn, 1) := by decide +kernel
set_option maxRecDepth 20000 in
def kX11_end_0 (g : sk_G) (d ck sk : Nat) (Q : sk_P) : sk_K := o_aload 0 (o_getf 11 0 (o_iload 1 (o_invT (g, d, ck, sk, xX11_end, Q) 2 1 9 (fun Q => kX9_cut_0 g (d - 1) 0 0 Q) (o_zret (g, d, ck, sk, xX11_end, Q)))))
set_option maxRecDepth 20000 in
theorem tX11_end_0 {g : sk_G} {d ck sk : Nat} {Q : sk_P} : sk_S (g, d, ck, sk, xX11_end, Q) 0 (kX11_end_0 g d ck sk Q) := s_aload_n dX11_end_0 rfl (s_getf (ci := 11) (j := 0) (C := RX11) (T := TX11) (N := 17) dX11_end_1 rfl (by decide) (by decide) qf_X11_10 (s_iload_n dX11_end_4 rfl (s_invT (X := xX9_cut) (ci := 9) (T := TX9) (N := 3) (K := (fun Q => kX9_cut_0 g (d - 1) 0 0 Q)) (fun _ => tX9_cut_0) rfl dX11_end_5 m_X9_cut rfl (by decide) qm_X11_99 qi_X9_cut qe_X9_cut (s_zret dX11_end_8 rfl))))
theorem dX11_fault_0 : decode cX11_fault 0 = .ok (.aload_n 0, 1) := by decide +kernel
theorem dX11_fault_1 : decode cX11_fault 1 = .ok (.getfield 10, 3) := by decide +kernel
theorem dX11_fault_4 : decode cX11_fault 4 = .ok (.invokevirtual 103, 3) := by decide +kernel
theorem dX11_fault_7 : decode cX11_fault 7 = .ok (.iload_n 1, 1) := by decide +kernel
theorem dX11_fault_8 : decode cX11_fault 8 = .ok (.ifCond .ne 18, 3) := by decide +kernel
theorem dX11_fault_11 : decode cX11_fault 11 = .ok (.aload_n 0, 1) := by decide +kernel
theorem dX11_fault_12 : decode cX11_fault 12 = .ok (.getfield 23, 3) := by decide +kernel
theorem dX11_fault_15 : decode cX11_fault 15 = .ok (.aload_n 0, 1) := by decide +kernel
theorem dX11_fault_16 : decode cX11_fault 16 = .ok (.getfield 10, 3) := by decide +kernel
theorem dX11_fault_19 : decode cX11_fault 19 = .ok (.invokevirtual 106, 3) := by decide +kernel
theorem dX11_fault_22 : decode cX11_fault 22 = .ok (.istore_n 2, 1) := by decide +kernel
theorem dX11_fault_23 : decode cX11_fault 23 = .ok (.goto 52, 3) := by decide +kernel
theorem dX11_fault_26 : decode cX11_fault 26 = .ok (.iload_n 1, 1) := by decide +kernel
theorem dX11_fault_27 : decode cX11_fault 27 = .ok (.iconst 1, 1) := by decide +kernel
theorem dX11_fault_28 : decode cX11_fault 28 = .ok (.if_icmp .ne 21, 3) := by decide +kernel
theorem dX11_fault_31 : decode cX11_fault 31 = .ok (.aload_n 0, 1) := by decide +kernel
theorem dX11_fault_32 : decode cX11_fault 32 = .ok (.getfield 29, 3) := by decide +kernel
theorem dX11_fault_35 : decode cX11_fault 35 = .ok (.getfield 110, 3) := by decide +kernel
theorem dX11_fault_38 : decode cX11_fault 38 = .ok (.aload_n 0, 1) := by decide +kernel
theorem dX11_fault_39 : decode cX11_fault 39 = .ok (.getfield 10, 3) := by decide +kernel
theorem dX11_fault_42 : decode cX11_fault 42 = .ok (.invokevirtual 114, 3) := by decide +kernel
theorem dX11_fault_45 : decode cX11_fault 45 = .ok (.istore_n 2, 1) := by decide +kernel
theorem dX11_fault_46 : decode cX11_fault 46 = .ok (.goto 29, 3) := by decide +kernel
theorem dX11_fault_49 : decode cX11_fault 49 = .ok (.iload_n 1, 1) := by decide +kernel
theorem dX11_fault_50 : decode cX11_fault 50 = .ok (.iconst 2, 1) := by decide +kernel
theorem dX11_fault_51 : decode cX11_fault 51 = .ok (.if_icmp .ne 21, 3) := by decide +kernel
theorem dX11_fault_54 : decode cX11_fault 54 = .ok (.aload_n 0, 1) := by decide +kernel
theorem dX11_fault_55 : decode cX11_fault 55 = .ok (.getfield 29, 3) := by decide +kernel
theorem dX11_fault_58 : decode cX11_fault 58 = .ok (.getfield 117, 3) := by decide +kernel
theorem dX11_fault_61 : decode cX11_fault 61 = .ok (.aload_n 0, 1) := by decide +kernel
theorem dX11_fault_62 : decode cX11_fault 62 = .ok (.getfield 10, 3) := by decide +kernel
theorem dX11_fault_65 : decode cX11_fault 65 = .ok (.invokevirtual 121, 3) := by decide +kernel
theorem dX11_fault_68 : decode cX11_fault 68 = .ok (.istore_n 2, 1) := by decide +kernel
theorem dX11_fault_69 : decode cX11_fault 69 = .ok (.goto 6, 3) := by decide +kernel
theorem dX11_fault_72 : decode cX11_fault 72 = .ok (.bipush (-2), 2) := by decide +kernel
theorem dX11_fault_74 : decode cX11_fault 74 = .ok (.ireturn, 1) := by decide +kernel
theorem dX11_fault_75 : decode cX11_fault 75 = .ok (.iload_n 2, 1) := by decide +kernel
theorem dX11_fault_76 : decode cX11_fault 76 = .ok (.ifCond .eq 7, 3) := by decide +kernel
theorem dX11_fault_79 : decode cX11_fault 79 = .ok (.iconst (-1), 1) := by decide +kernel
theorem dX11_fault_80 : decode cX11_fault 80 = .ok (.goto 10, 3) := by decide +kernel
theorem dX11_fault_83 : decode cX11_fault 83 = .ok (.aload_n 0, 1) := by decide +kernel
theorem dX11_fault_84 : decode cX11_fault 84 = .ok (.getfield 10, 3) := by decide +kernel
theorem dX11_fault_87 : decode cX11_fault 87 = .ok (.getfield 124, 3) := by decide +kernel
theorem dX11_fault_90 : decode cX11_fault 90 = .ok (.ireturn, 1) := by decide +kernel
set_option maxRecDepth 20000 in
def kX11_fault_0 (g : sk_G) (d ck sk : Nat) (Q : sk_P) : sk_K := o_aload 0 (o_getf 11 0 (o_invT (g, d, ck, sk, xX11_fault, Q) 1 0 9 (fun Q => kX9_rewind_0 g (d - 1) 0 0 Q) (o_iload 1 (o_ifne (o_iload 1 (o_i (1) (o_icne (o_iload 1 (o_i (2) (o_icne (o_i (-2) (o_iret (g, d, ck, sk, xX11_fault, Q))) (o_aload 0 (o_getf 11 3 (o_getf 8 3 (o_aload 0 (o_getf 11 0 (o_invB (g, d, ck, sk, xX11_fault, Q) xX10_read 1 10 0 0 (o_istore 2 (sk_B (g, d, ck, sk, xX11_fault, Q) 75))))))))))) (o_aload 0 (o_getf 11 3 (o_getf 8 2 (o_aload 0 (o_getf 11 0 (o_invB (g, d, ck, sk, xX11_fault, Q) xX1_read 1 1 0 0 (o_istore 2 (sk_B (g, d, ck, sk, xX11_fault, Q) 75))))))))))) (o_aload 0 (o_getf 11 2 (o_aload 0 (o_getf 11 0 (o_invB (g, d, ck, sk, xX11_fault, Q) xX7_read 1 7 0 0 (o_istore 2 (sk_B (g, d, ck, sk, xX11_fault, Q) 75)))))))))))
set_option maxRecDepth 20000 in
theorem tX11_fault_0 {g : sk_G} {d ck sk : Nat} {Q : sk_P} : sk_S (g, d, ck, sk, xX11_fault, Q) 0 (kX11_fault_0 g d ck sk Q) := s_aload_n dX11_fault_0 rfl (s_getf (ci := 11) (j := 0) (C := RX11) (T := TX11) (N := 17) dX11_fault_1 rfl (by decide) (by decide) qf_X11_10 (s_invT (X := xX9_rewind) (ci := 9) (T := TX9) (N := 3) (K := (fun Q => kX9_rewind_0 g (d - 1) 0 0 Q)) (fun _ => tX9_rewind_0) rfl dX11_fault_4 m_X9_rewind rfl (by decide) qm_X11_103 qi_X9_rewind qe_X9_rewind (s_iload_n dX11_fault_7 rfl (s_ifne (tgt := 26) dX11_fault_8 (by decide) (s_iload_n dX11_fault_26 rfl (s_iconst dX11_fault_27 (s_icne (tgt := 49) dX11_fault_28 (by decide) (s_iload_n dX11_fault_49 rfl (s_iconst dX11_fault_50 (s_icne (tgt := 72) dX11_fault_51 (by decide) (s_bipush dX11_fault_72 rfl (s_iret dX11_fault_74 rfl)) (s_aload_n dX11_fault_54 rfl (s_getf (ci := 11) (j := 3) (C := RX11) (T := TX11) (N := 17) dX11_fault_55 rfl (by decide) (by decide) qf_X11_29 (s_getfN (ci := 8) (j := 3) (C := RX8) (T := TX8) (N := 7) dX11_fault_58 rfl (by decide) (by decide) qn_X11_117 (s_aload_n dX11_fault_61 rfl (s_getf (ci := 11) (j := 0) (C := RX11) (T := TX11) (N := 17) dX11_fault_62 rfl (by decide) (by decide) qf_X11_10 (s_invB (w' := (g, d, ck, sk, xX11_fault, Q)) (ci := 10) (ck := 0) (sk := 0) (T := TX10) (N := 9) dX11_fault_65 m_X10_read rfl (by decide) qm_X11_121 qi_X10_read qe_X10_read rfl (s_istore_n dX11_fault_68 rfl (by decide : 2 < 3) (s_goto (tgt := 75) dX11_fault_69 (by decide) (sk_id)))))))))))) (s_aload_n dX11_fault_31 rfl (s_getf (ci := 11) (j := 3) (C := RX11) (T := TX11) (N := 17) dX11_fault_32 rfl (by decide) (by decide) qf_X11_29 (s_getfN (ci := 8) (j := 2) (C := RX8) (T := TX8) (N := 7) dX11_fault_35 rfl (by decide) (by decide) qn_X11_110 (s_aload_n dX11_fault_38 rfl (s_getf (ci := 11) (j := 0) (C := RX11) (T := TX11) (N := 17) dX11_fault_39 rfl (by decide) (by decide) qf_X11_10 (s_invB (w' := (g, d, ck, sk, xX11_fault, Q)) (ci := 1) (ck := 0) (sk := 0) (T := TX1) (N := 5) dX11_fault_42 m_X1_read rfl (by decide) qm_X11_114 qi_X1_read qe_X1_read rfl (s_istore_n dX11_fault_45 rfl (by decide : 2 < 3) (s_goto (tgt := 75) dX11_fault_46 (by decide) (sk_id)))))))))))) (s_aload_n dX11_fault_11 rfl (s_getf (ci := 11) (j := 2) (C := RX11) (T := TX11) (N := 17) dX11_fault_12 rfl (by decide) (by decide) qf_X11_23 (s_aload_n dX11_fault_15 rfl (s_getf (ci := 11) (j := 0) (C := RX11) (T := TX11) (N := 17) dX11_fault_16 rfl (by decide) (by decide) qf_X11_10 (s_invB (w' := (g, d, ck, sk, xX11_fault, Q)) (ci := 7) (ck := 0) (sk := 0) (T := TX7) (N := 4) dX11_fault_19 m_X7_read rfl (by decide) qm_X11_106 qi_X7_read qe_X7_read rfl (s_istore_n dX11_fault_22 rfl (by decide : 2 < 3) (s_goto (tgt := 75) dX11_fault_23 (by decide) (sk_id))))))))))))
def kX11_fault_75 (g : sk_G) (d ck sk : Nat) (Q : sk_P) : sk_K := o_iload 2 (o_ifeq (o_aload 0 (o_getf 11 0 (o_getf 9 2 (o_iret (g, d, ck, sk, xX11_fault, Q))))) (o_i (-1) (o_iret (g, d, ck, sk, xX11_fault, Q))))
theorem tX11_fault_75 {g : sk_G} {d ck sk : Nat} {Q : sk_P} : sk_S (g, d, ck, sk, xX11_fault, Q) 75 (kX11_fault_75 g d ck sk Q) := s_iload_n dX11_fault_75 rfl (s_ifeq (tgt := 83) dX11_fault_76 (by decide) (s_aload_n dX11_fault_83 rfl (s_getf (ci := 11) (j := 0) (C := RX11) (T := TX11) (N := 17) dX11_fault_84 rfl (by decide) (by decide) qf_X11_10 (s_getfN (ci := 9) (j := 2) (C := RX9) (T := TX9) (N := 3) dX11_fault_87 rfl (by decide) (by decide) qn_X11_124 (s_iret dX11_fault_90 rfl)))) (s_iconst dX11_fault_79 (s_goto (tgt := 90) dX11_fault_80 (by decide) (s_iret dX11_fault_90 rfl))))
theorem dX11_text_0 : decode cX11_text 0 = .ok (.aload_n 0, 1) := by decide +kernel
theorem dX11_text_1 : decode cX11_text 1 = .ok (.iload_n 1, 1) := by decide +kernel
theorem dX11_text_2 : decode cX11_text 2 = .ok (.invokevirtual 127, 3) := by decide +kernel
theorem dX11_text_5 : decode cX11_text 5 = .ok (.iconst (-1), 1) := by decide +kernel
theorem dX11_text_6 : decode cX11_text 6 = .ok (.if_icmp .eq 5, 3) := by decide +kernel
theorem dX11_text_9 : decode cX11_text 9 = .ok (.iconst (-1), 1) := by decide +kernel
theorem dX11_text_10 : decode cX11_text 10 = .ok (.ireturn, 1) := by decide +kernel
theorem dX11_text_11 : decode cX11_text 11 = .ok (.iload_n 1, 1) := by decide +kernel
theorem dX11_text_12 : decode cX11_text 12 = .ok (.ifCond .ne 10, 3) := by decide +kernel
theorem dX11_text_15 : decode cX11_text 15 = .ok (.aload_n 0, 1) := by decide +kernel
theorem dX11_text_16 : decode cX11_text 16 = .ok (.invokevirtual 131, 3) := by decide +kernel
theorem dX11_text_19 : decode cX11_text 19 = .ok (.goto 25, 3) := by decide +kernel
theorem dX11_text_22 : decode cX11_text 22 = .ok (.iload_n 1, 1) := by decide +kernel
theorem dX11_text_23 : decode cX11_text 23 = .ok (.iconst 1, 1) := by decide +kernel
theorem dX11_text_24 : decode cX11_text 24 = .ok (.if_icmp .ne 13, 3) := by decide +kernel
theorem dX11_text_27 : decode cX11_text 27 = .ok (.aload_n 0, 1) := by decide +kernel
theorem dX11_text_28 : decode cX11_text 28 = .ok (.getfield 29, 3) := by decide +kernel
theorem dX11_text_31 : decode cX11_text 31 = .ok (.invokevirtual 135, 3) := by decide +kernel
theorem dX11_text_34 : decode cX11_text 34 = .ok (.goto 10, 3) := by decide +kernel
theorem dX11_text_37 : decode cX11_text 37 = .ok (.aload_n 0, 1) := by decide +kernel
theorem dX11_text_38 : decode cX11_text 38 = .ok (.getfield 29, 3) := by decide +kernel
theorem dX11_text_41 : decode cX11_text 41 = .ok (.invokevirtual 138, 3) := by decide +kernel
theorem dX11_text_44 : decode cX11_text 44 = .ok (.istore_n 2, 1) := by decide +kernel
theorem dX11_text_45 : decode cX11_text 45 = .ok (.iload_n 2, 1) := by decide +kernel
theorem dX11_text_46 : decode cX11_text 46 = .ok (.iconst (-1), 1) := by decide +kernel
theorem dX11_text_47 : decode cX11_text 47 = .ok (.if_icmp .eq 12, 3) := by decide +kernel
theorem dX11_text_50 : decode cX11_text 50 = .ok (.aload_n 0, 1) := by decide +kernel
theorem dX11_text_51 : decode cX11_text 51 = .ok (.getfield 10, 3) := by decide +kernel
theorem dX11_text_54 : decode cX11_text 54 = .ok (.iconst 0, 1) := by decide +kernel
theorem dX11_text_55 : decode cX11_text 55 = .ok (.invokevirtual 99, 3) := by decide +kernel
theorem dX11_text_58 : decode cX11_text 58 = .ok (.pop, 1) := by decide +kernel
theorem dX11_text_59 : decode cX11_text 59 = .ok (.iload_n 2, 1) := by decide +kernel
theorem dX11_text_60 : decode cX11_text 60 = .ok (.ireturn, 1) := by decide +kernel
set_option maxRecDepth 20000 in
def kX11_text_0 (g : sk_G) (d ck sk : Nat) (Q : sk_P) : sk_K := o_aload 0 (o_iload 1 (o_invB (g, d, ck, sk, xX11_text, Q) xX11_fault 1 11 0 0 (o_i (-1) (o_iceq (o_iload 1 (o_ifne (o_iload 1 (o_i (1) (o_icne (o_aload 0 (o_getf 11 3 (o_invB (g, d, ck, sk, xX11_text, Q) xX8_takeWriting 0 8 6 65 (sk_B (g, d, ck - 6, sk - 65, xX11_text, Q) 44)))) (o_aload 0 (o_getf 11 3 (o_invB (g, d, ck, sk, xX11_text, Q) xX8_takeLaw 0 8 4 283 (sk_B (g, d, ck - 4, sk - 283, xX11_text, Q) 44))))))) (o_aload 0 (o_invB (g, d, ck, sk, xX11_text, Q) xX11_takeSkin 0 11 0 0 (sk_B (g, d, ck, sk, xX11_text, Q) 44))))) (o_i (-1) (o_iret (g, d, ck, sk, xX11_text, Q)))))))
set_option maxRecDepth 20000 in
theorem tX11_text_0 {g : sk_G} {d ck sk : Nat} {Q : sk_P} : sk_S (g, d, ck, sk, xX11_text, Q) 0 (kX11_text_0 g d ck sk Q) := s_aload_n dX11_text_0 rfl (s_iload_n dX11_text_1 rfl (s_invB (w' := (g, d, ck, sk, xX11_text, Q)) (ci := 11) (ck := 0) (sk := 0) (T := TX11) (N := 17) dX11_text_2 m_X11_fault rfl (by decide) qm_X11_127 qi_X11_fault qe_X11_fault rfl (s_iconst dX11_text_5 (s_iceq (tgt := 11) dX11_text_6 (by decide) (s_iload_n dX11_text_11 rfl (s_ifne (tgt := 22) dX11_text_12 (by decide) (s_iload_n dX11_text_22 rfl (s_iconst dX11_text_23 (s_icne (tgt := 37) dX11_text_24 (by decide) (s_aload_n dX11_text_37 rfl (s_getf (ci := 11) (j := 3) (C := RX11) (T := TX11) (N := 17) dX11_text_38 rfl (by decide) (by decide) qf_X11_29 (s_invB (w' := (g, d, ck - 6, sk - 65, xX11_text, Q)) (ci := 8) (ck := 6) (sk := 65) (T := TX8) (N := 7) dX11_text_41 m_X8_takeWriting rfl (by decide) qm_X11_138 qi_X8_takeWriting qe_X8_takeWriting rfl (sk_id)))) (s_aload_n dX11_text_27 rfl (s_getf (ci := 11) (j := 3) (C := RX11) (T := TX11) (N := 17) dX11_text_28 rfl (by decide) (by decide) qf_X11_29 (s_invB (w' := (g, d, ck - 4, sk - 283, xX11_text, Q)) (ci := 8) (ck := 4) (sk := 283) (T := TX8) (N := 7) dX11_text_31 m_X8_takeLaw rfl (by decide) qm_X11_135 qi_X8_takeLaw qe_X8_takeLaw rfl (s_goto (tgt := 44) dX11_text_34 (by decide) (sk_id)))))))) (s_aload_n dX11_text_15 rfl (s_invB (w' := (g, d, ck, sk, xX11_text, Q)) (ci := 11) (ck := 0) (sk := 0) (T := TX11) (N := 17) dX11_text_16 m_X11_takeSkin rfl (by decide) qm_X11_131 qi_X11_takeSkin qe_X11_takeSkin rfl (s_goto (tgt := 44) dX11_text_19 (by decide) (sk_id)))))) (s_iconst dX11_text_9 (s_iret dX11_text_10 rfl))))))
set_option maxRecDepth 20000 in
def kX11_text_44 (g : sk_G) (d ck sk : Nat) (Q : sk_P) : sk_K := o_istore 2 (o_iload 2 (o_i (-1) (o_iceq (o_iload 2 (o_iret (g, d, ck, sk, xX11_text, Q))) (o_aload 0 (o_getf 11 0 (o_i (0) (o_invT (g, d, ck, sk, xX11_text, Q) 2 1 9 (fun Q => kX9_cut_0 g (d - 1) 0 0 Q) (o_pop (o_iload 2 (o_iret (g, d, ck, sk, xX11_text, Q)))))))))))
set_option maxRecDepth 20000 in
theorem tX11_text_44 {g : sk_G} {d ck sk : Nat} {Q : sk_P} : sk_S (g, d, ck, sk, xX11_text, Q) 44 (kX11_text_44 g d ck sk Q) := s_istore_n dX11_text_44 rfl (by decide : 2 < 3) (s_iload_n dX11_text_45 rfl (s_iconst dX11_text_46 (s_iceq (tgt := 59) dX11_text_47 (by decide) (s_iload_n dX11_text_59 rfl (s_iret dX11_text_60 rfl)) (s_aload_n dX11_text_50 rfl (s_getf (ci := 11) (j := 0) (C := RX11) (T := TX11) (N := 17) dX11_text_51 rfl (by decide) (by decide) qf_X11_10 (s_iconst dX11_text_54 (s_invT (X := xX9_cut) (ci := 9) (T := TX9) (N := 3) (K := (fun Q => kX9_cut_0 g (d - 1) 0 0 Q)) (fun _ => tX9_cut_0) rfl dX11_text_55 m_X9_cut rfl (by decide) qm_X11_99 qi_X9_cut qe_X9_cut (s_pop dX11_text_58 (s_iload_n dX11_text_59 rfl (s_iret dX11_text_60 rfl))))))))))
theorem dX11_takeSkin_0 : decode cX11_takeSkin 0 = .ok (.aload_n 0, 1) := by decide +kernel
theorem dX11_takeSkin_1 : decode cX11_takeSkin 1 = .ok (.getfield 19, 3) := by decide +kernel
theorem dX11_takeSkin_4 : decode cX11_takeSkin 4 = .ok (.astore_n 1, 1) := by decide +kernel
theorem dX11_takeSkin_5 : decode cX11_takeSkin 5 = .ok (.aload_n 0, 1) := by decide +kernel
theorem dX11_takeSkin_6 : decode cX11_takeSkin 6 = .ok (.aload_n 0, 1) := by decide +kernel
theorem dX11_takeSkin_7 : decode cX11_takeSkin 7 = .ok (.getfield 23, 3) := by decide +kernel
theorem dX11_takeSkin_10 : decode cX11_takeSkin 10 = .ok (.putfield 19, 3) := by decide +kernel
theorem dX11_takeSkin_13 : decode cX11_takeSkin 13 = .ok (.aload_n 0, 1) := by decide +kernel
theorem dX11_takeSkin_14 : decode cX11_takeSkin 14 = .ok (.aload_n 1, 1) := by decide +kernel
theorem dX11_takeSkin_15 : decode cX11_takeSkin 15 = .ok (.putfield 23, 3) := by decide +kernel
theorem dX11_takeSkin_18 : decode cX11_takeSkin 18 = .ok (.aload_n 0, 1) := by decide +kernel
theorem dX11_takeSkin_19 : decode cX11_takeSkin 19 = .ok (.getfield 36, 3) := by decide +kernel
theorem dX11_takeSkin_22 : decode cX11_takeSkin 22 = .ok (.aload_n 0, 1) := by decide +kernel
theorem dX11_takeSkin_23 : decode cX11_takeSkin 23 = .ok (.getfield 19, 3) := by decide +kernel
theorem dX11_takeSkin_26 : decode cX11_takeSkin 26 = .ok (.invokevirtual 416, 3) := by decide +kernel
theorem dX11_takeSkin_29 : decode cX11_takeSkin 29 = .ok (.invokevirtual 419, 3) := by decide +kernel
theorem dX11_takeSkin_32 : decode cX11_takeSkin 32 = .ok (.aload_n 0, 1) := by decide +kernel
theorem dX11_takeSkin_33 : decode cX11_takeSkin 33 = .ok (.getfield 53, 3) := by decide +kernel
theorem dX11_takeSkin_36 : decode cX11_takeSkin 36 = .ok (.invokevirtual 422, 3) := by decide +kernel
theorem dX11_takeSkin_39 : decode cX11_takeSkin 39 = .ok (.aload_n 0, 1) := by decide +kernel
theorem dX11_takeSkin_40 : decode cX11_takeSkin 40 = .ok (.getfield 60, 3) := by decide +kernel
theorem dX11_takeSkin_43 : decode cX11_takeSkin 43 = .ok (.iconst 0, 1) := by decide +kernel
theorem dX11_takeSkin_44 : decode cX11_takeSkin 44 = .ok (.putfield 412, 3) := by decide +kernel
theorem dX11_takeSkin_47 : decode cX11_takeSkin 47 = .ok (.aload_n 0, 1) := by decide +kernel
theorem dX11_takeSkin_48 : decode cX11_takeSkin 48 = .ok (.getfield 19, 3) := by decide +kernel
theorem dX11_takeSkin_51 : decode cX11_takeSkin 51 = .ok (.invokevirtual 400, 3) := by decide +kernel
theorem dX11_takeSkin_54 : decode cX11_takeSkin 54 = .ok (.ireturn, 1) := by decide +kernel
set_option maxRecDepth 20000 in
def kX11_takeSkin_0 (g : sk_G) (d ck sk : Nat) (Q : sk_P) : sk_K := o_aload 0 (o_getf 11 1 (o_astore 1 (o_aload 0 (o_aload 0 (o_getf 11 2 (o_puta 11 1 (o_aload 0 (o_aload 1 (o_puta 11 2 (o_aload 0 (o_getf 11 4 (o_aload 0 (o_getf 11 1 (o_invT (g, d, ck, sk, xX11_takeSkin, Q) 1 0 7 (fun Q => kX7_coinsAtFirst_0 g (d - 1) 0 0 Q) (o_invB (g, d, ck, sk, xX11_takeSkin, Q) xX5_blank 1 5 0 0 (o_aload 0 (o_getf 11 7 (o_invT (g, d, ck, sk, xX11_takeSkin, Q) 1 0 0 (fun Q => kX0_forget_0 g (d - 1) 0 0 Q) (o_aload 0 (o_getf 11 8 (o_i (0) (o_puti 4 3 (o_aload 0 (o_getf 11 1 (o_invT (g, d, ck, sk, xX11_takeSkin, Q) 1 0 7 (fun Q => kX7_cells_0 g (d - 1) 0 0 Q) (o_iret (g, d, ck, sk, xX11_takeSkin, Q)))))))))))))))))))))))))))
set_option maxRecDepth 20000 in
theorem tX11_takeSkin_0 {g : sk_G} {d ck sk : Nat} {Q : sk_P} : sk_S (g, d, ck, sk, xX11_takeSkin, Q) 0 (kX11_takeSkin_0 g d ck sk Q) := s_aload_n dX11_takeSkin_0 rfl (s_getf (ci := 11) (j := 1) (C := RX11) (T := TX11) (N := 17) dX11_takeSkin_1 rfl (by decide) (by decide) qf_X11_19 (s_astore_n dX11_takeSkin_4 rfl (by decide : 1 < 2) (s_aload_n dX11_takeSkin_5 rfl (s_aload_n dX11_takeSkin_6 rfl (s_getf (ci := 11) (j := 2) (C := RX11) (T := TX11) (N := 17) dX11_takeSkin_7 rfl (by decide) (by decide) qf_X11_23 (s_puta (ci := 11) (j := 1) (C := RX11) (T := TX11) (N := 17) dX11_takeSkin_10 rfl (by decide) (by decide) rfl (Or.inl ⟨_, rfl⟩) (tyX11_ok 1 (by decide)) qf_X11_19 (s_aload_n dX11_takeSkin_13 rfl (s_aload_n dX11_takeSkin_14 rfl (s_puta (ci := 11) (j := 2) (C := RX11) (T := TX11) (N := 17) dX11_takeSkin_15 rfl (by decide) (by decide) rfl (Or.inl ⟨_, rfl⟩) (tyX11_ok 2 (by decide)) qf_X11_23 (s_aload_n dX11_takeSkin_18 rfl (s_getf (ci := 11) (j := 4) (C := RX11) (T := TX11) (N := 17) dX11_takeSkin_19 rfl (by decide) (by decide) qf_X11_36 (s_aload_n dX11_takeSkin_22 rfl (s_getf (ci := 11) (j := 1) (C := RX11) (T := TX11) (N := 17) dX11_takeSkin_23 rfl (by decide) (by decide) qf_X11_19 (s_invT (X := xX7_coinsAtFirst) (ci := 7) (T := TX7) (N := 4) (K := (fun Q => kX7_coinsAtFirst_0 g (d - 1) 0 0 Q)) (fun _ => tX7_coinsAtFirst_0) rfl dX11_takeSkin_26 m_X7_coinsAtFirst rfl (by decide) qm_X11_416 qi_X7_coinsAtFirst qe_X7_coinsAtFirst (s_invB (w' := (g, d, ck, sk, xX11_takeSkin, Q)) (ci := 5) (ck := 0) (sk := 0) (T := TX5) (N := 6) dX11_takeSkin_29 m_X5_blank rfl (by decide) qm_X11_419 qi_X5_blank qe_X5_blank rfl (s_aload_n dX11_takeSkin_32 rfl (s_getf (ci := 11) (j := 7) (C := RX11) (T := TX11) (N := 17) dX11_takeSkin_33 rfl (by decide) (by decide) qf_X11_53 (s_invT (X := xX0_forget) (ci := 0) (T := TX0) (N := 6) (K := (fun Q => kX0_forget_0 g (d - 1) 0 0 Q)) (fun _ => tX0_forget_0) rfl dX11_takeSkin_36 m_X0_forget rfl (by decide) qm_X11_422 qi_X0_forget qe_X0_forget (s_aload_n dX11_takeSkin_39 rfl (s_getf (ci := 11) (j := 8) (C := RX11) (T := TX11) (N := 17) dX11_takeSkin_40 rfl (by decide) (by decide) qf_X11_60 (s_iconst dX11_takeSkin_43 (s_putiN (ci := 4) (j := 3) (C := RX4) (T := TX4) (N := 4) dX11_takeSkin_44 rfl (by decide) (by decide) rfl (tyX4_ok 3 (by decide)) qn_X11_412 (s_aload_n dX11_takeSkin_47 rfl (s_getf (ci := 11) (j := 1) (C := RX11) (T := TX11) (N := 17) dX11_takeSkin_48 rfl (by decide) (by decide) qf_X11_19 (s_invT (X := xX7_cells) (ci := 7) (T := TX7) (N := 4) (K := (fun Q => kX7_cells_0 g (d - 1) 0 0 Q)) (fun _ => tX7_cells_0) rfl dX11_takeSkin_51 m_X7_cells rfl (by decide) qm_X11_400 qi_X7_cells qe_X7_cells (s_iret dX11_takeSkin_54 rfl))))))))))))))))))))))))))
theorem dX11_rule_0 : decode cX11_rule 0 = .ok (.aload_n 0, 1) := by decide +kernel
theorem dX11_rule_1 : decode cX11_rule 1 = .ok (.getfield 19, 3) := by decide +kernel
theorem dX11_rule_4 : decode cX11_rule 4 = .ok (.invokevirtual 141, 3) := by decide +kernel
theorem dX11_rule_7 : decode cX11_rule 7 = .ok (.ifCond .eq 12, 3) := by decide +kernel
theorem dX11_rule_10 : decode cX11_rule 10 = .ok (.iload_n 1, 1) := by decide +kernel
theorem dX11_rule_11 : decode cX11_rule 11 = .ok (.ifCond .lt 8, 3) := by decide +kernel
theorem dX11_rule_14 : decode cX11_rule 14 = .ok (.iload_n 1, 1) := by decide +kernel
theorem dX11_rule_15 : decode cX11_rule 15 = .ok (.iconst 3, 1) := by decide +kernel
theorem dX11_rule_16 : decode cX11_rule 16 = .ok (.if_icmp .le 5, 3) := by decide +kernel
theorem dX11_rule_19 : decode cX11_rule 19 = .ok (.iconst (-1), 1) := by decide +kernel
theorem dX11_rule_20 : decode cX11_rule 20 = .ok (.ireturn, 1) := by decide +kernel
theorem dX11_rule_21 : decode cX11_rule 21 = .ok (.iload_n 1, 1) := by decide +kernel
theorem dX11_rule_22 : decode cX11_rule 22 = .ok (.iconst 3, 1) := by decide +kernel
theorem dX11_rule_23 : decode cX11_rule 23 = .ok (.if_icmp .ne 13, 3) := by decide +kernel
theorem dX11_rule_26 : decode cX11_rule 26 = .ok (.aload_n 0, 1) := by decide +kernel
theorem dX11_rule_27 : decode cX11_rule 27 = .ok (.getfield 36, 3) := by decide +kernel
theorem dX11_rule_30 : decode cX11_rule 30 = .ok (.getfield 145, 3) := by decide +kernel
theorem dX11_rule_33 : decode cX11_rule 33 = .ok (.goto 12, 3) := by decide +kernel
theorem dX11_rule_36 : decode cX11_rule 36 = .ok (.aload_n 0, 1) := by decide +kernel
theorem dX11_rule_37 : decode cX11_rule 37 = .ok (.getfield 19, 3) := by decide +kernel
theorem dX11_rule_40 : decode cX11_rule 40 = .ok (.getfield 148, 3) := by decide +kernel
theorem dX11_rule_43 : decode cX11_rule 43 = .ok (.iload_n 1, 1) := by decide +kernel
theorem dX11_rule_44 : decode cX11_rule 44 = .ok (.iaload, 1) := by decide +kernel
theorem dX11_rule_45 : decode cX11_rule 45 = .ok (.ireturn, 1) := by decide +kernel
set_option maxRecDepth 20000 in
def kX11_rule_0 (g : sk_G) (d ck sk : Nat) (Q : sk_P) : sk_K := o_aload 0 (o_getf 11 1 (o_invT (g, d, ck, sk, xX11_rule, Q) 1 0 7 (fun Q => kX7_isSkin_0 g (d - 1) 0 0 Q) (o_ifeq (o_i (-1) (o_iret (g, d, ck, sk, xX11_rule, Q))) (o_iload 1 (o_iflt (o_i (-1) (o_iret (g, d, ck, sk, xX11_rule, Q))) (o_iload 1 (o_i (3) (o_icle (o_iload 1 (o_i (3) (o_icne (o_aload 0 (o_getf 11 1 (o_getf 7 0 (o_iload 1 (o_iaload (o_iret (g, d, ck, sk, xX11_rule, Q))))))) (o_aload 0 (o_getf 11 4 (o_getf 5 2 (o_iret (g, d, ck, sk, xX11_rule, Q)))))))) (o_i (-1) (o_iret (g, d, ck, sk, xX11_rule, Q)))))))))))
set_option maxRecDepth 20000 in
theorem tX11_rule_0 {g : sk_G} {d ck sk : Nat} {Q : sk_P} : sk_S (g, d, ck, sk, xX11_rule, Q) 0 (kX11_rule_0 g d ck sk Q) := s_aload_n dX11_rule_0 rfl (s_getf (ci := 11) (j := 1) (C := RX11) (T := TX11) (N := 17) dX11_rule_1 rfl (by decide) (by decide) qf_X11_19 (s_invT (X := xX7_isSkin) (ci := 7) (T := TX7) (N := 4) (K := (fun Q => kX7_isSkin_0 g (d - 1) 0 0 Q)) (fun _ => tX7_isSkin_0) rfl dX11_rule_4 m_X7_isSkin rfl (by decide) qm_X11_141 qi_X7_isSkin qe_X7_isSkin (s_ifeq (tgt := 19) dX11_rule_7 (by decide) (s_iconst dX11_rule_19 (s_iret dX11_rule_20 rfl)) (s_iload_n dX11_rule_10 rfl (s_iflt (tgt := 19) dX11_rule_11 (by decide) (s_iconst dX11_rule_19 (s_iret dX11_rule_20 rfl)) (s_iload_n dX11_rule_14 rfl (s_iconst dX11_rule_15 (s_icle (tgt := 21) dX11_rule_16 (by decide) (s_iload_n dX11_rule_21 rfl (s_iconst dX11_rule_22 (s_icne (tgt := 36) dX11_rule_23 (by decide) (s_aload_n dX11_rule_36 rfl (s_getf (ci := 11) (j := 1) (C := RX11) (T := TX11) (N := 17) dX11_rule_37 rfl (by decide) (by decide) qf_X11_19 (s_getfN (ci := 7) (j := 0) (C := RX7) (T := TX7) (N := 4) dX11_rule_40 rfl (by decide) (by decide) qn_X11_148 (s_iload_n dX11_rule_43 rfl (s_iaload dX11_rule_44 (s_iret dX11_rule_45 rfl)))))) (s_aload_n dX11_rule_26 rfl (s_getf (ci := 11) (j := 4) (C := RX11) (T := TX11) (N := 17) dX11_rule_27 rfl (by decide) (by decide) qf_X11_36 (s_getfN (ci := 5) (j := 2) (C := RX5) (T := TX5) (N := 6) dX11_rule_30 rfl (by decide) (by decide) qn_X11_145 (s_goto (tgt := 45) dX11_rule_33 (by decide) (s_iret dX11_rule_45 rfl)))))))) (s_iconst dX11_rule_19 (s_iret dX11_rule_20 rfl))))))))))
theorem dX11_sign_0 : decode cX11_sign 0 = .ok (.aload_n 0, 1) := by decide +kernel
theorem dX11_sign_1 : decode cX11_sign 1 = .ok (.getfield 29, 3) := by decide +kernel
theorem dX11_sign_4 : decode cX11_sign 4 = .ok (.iload_n 1, 1) := by decide +kernel
theorem dX11_sign_5 : decode cX11_sign 5 = .ok (.invokevirtual 171, 3) := by decide +kernel
theorem dX11_sign_8 : decode cX11_sign 8 = .ok (.astore 4, 2) := by decide +kernel
theorem dX11_sign_10 : decode cX11_sign 10 = .ok (.aload 4, 2) := by decide +kernel
theorem dX11_sign_12 : decode cX11_sign 12 = .ok (.ifnonnull 7, 3) := by decide +kernel
theorem dX11_sign_15 : decode cX11_sign 15 = .ok (.iconst (-1), 1) := by decide +kernel
theorem dX11_sign_16 : decode cX11_sign 16 = .ok (.goto 10, 3) := by decide +kernel
theorem dX11_sign_19 : decode cX11_sign 19 = .ok (.aload 4, 2) := by decide +kernel
theorem dX11_sign_21 : decode cX11_sign 21 = .ok (.iload_n 2, 1) := by decide +kernel
theorem dX11_sign_22 : decode cX11_sign 22 = .ok (.iload_n 3, 1) := by decide +kernel
theorem dX11_sign_23 : decode cX11_sign 23 = .ok (.invokevirtual 175, 3) := by decide +kernel
theorem dX11_sign_26 : decode cX11_sign 26 = .ok (.ireturn, 1) := by decide +kernel
set_option maxRecDepth 20000 in
def kX11_sign_0 (g : sk_G) (d ck sk : Nat) (Q : sk_P) : sk_K := o_aload 0 (o_getf 11 3 (o_iload 1 (o_invT (g, d, ck, sk, xX11_sign, Q) 2 1 8 (fun Q => kX8_writingAt_0 g (d - 1) 0 0 Q) (o_astore 4 (o_aload 4 (o_ifnull (o_i (-1) (o_iret (g, d, ck, sk, xX11_sign, Q))) (o_aload 4 (o_iload 2 (o_iload 3 (o_invT (g, d, ck, sk, xX11_sign, Q) 3 2 10 (fun Q => kX10_signAt_0 g (d - 1) 0 0 Q) (o_iret (g, d, ck, sk, xX11_sign, Q))))))))))))
set_option maxRecDepth 20000 in
theorem tX11_sign_0 {g : sk_G} {d ck sk : Nat} {Q : sk_P} : sk_S (g, d, ck, sk, xX11_sign, Q) 0 (kX11_sign_0 g d ck sk Q) := s_aload_n dX11_sign_0 rfl (s_getf (ci := 11) (j := 3) (C := RX11) (T := TX11) (N := 17) dX11_sign_1 rfl (by decide) (by decide) qf_X11_29 (s_iload_n dX11_sign_4 rfl (s_invT (X := xX8_writingAt) (ci := 8) (T := TX8) (N := 7) (K := (fun Q => kX8_writingAt_0 g (d - 1) 0 0 Q)) (fun _ => tX8_writingAt_0) rfl dX11_sign_5 m_X8_writingAt rfl (by decide) qm_X11_171 qi_X8_writingAt qe_X8_writingAt (s_astore dX11_sign_8 (by decide : 4 < 5) (s_aload dX11_sign_10 (s_ifnonnull (tgt := 19) dX11_sign_12 (by decide) (s_aload dX11_sign_19 (s_iload_n dX11_sign_21 rfl (s_iload_n dX11_sign_22 rfl (s_invT (X := xX10_signAt) (ci := 10) (T := TX10) (N := 9) (K := (fun Q => kX10_signAt_0 g (d - 1) 0 0 Q)) (fun _ => tX10_signAt_0) rfl dX11_sign_23 m_X10_signAt rfl (by decide) qm_X11_175 qi_X10_signAt qe_X10_signAt (s_iret dX11_sign_26 rfl))))) (s_iconst dX11_sign_15 (s_goto (tgt := 26) dX11_sign_16 (by decide) (s_iret dX11_sign_26 rfl)))))))))
theorem dX11_layer_0 : decode cX11_layer 0 = .ok (.aload_n 0, 1) := by decide +kernel
theorem dX11_layer_1 : decode cX11_layer 1 = .ok (.getfield 19, 3) := by decide +kernel
theorem dX11_layer_4 : decode cX11_layer 4 = .ok (.iload_n 1, 1) := by decide +kernel
theorem dX11_layer_5 : decode cX11_layer 5 = .ok (.invokevirtual 178, 3) := by decide +kernel
theorem dX11_layer_8 : decode cX11_layer 8 = .ok (.ifCond .eq 29, 3) := by decide +kernel
theorem dX11_layer_11 : decode cX11_layer 11 = .ok (.iload_n 2, 1) := by decide +kernel
theorem dX11_layer_12 : decode cX11_layer 12 = .ok (.ifCond .lt 25, 3) := by decide +kernel
theorem dX11_layer_15 : decode cX11_layer 15 = .ok (.iload_n 2, 1) := by decide +kernel
theorem dX11_layer_16 : decode cX11_layer 16 = .ok (.aload_n 0, 1) := by decide +kernel
theorem dX11_layer_17 : decode cX11_layer 17 = .ok (.getfield 36, 3) := by decide +kernel
theorem dX11_layer_20 : decode cX11_layer 20 = .ok (.getfield 181, 3) := by decide +kernel
theorem dX11_layer_23 : decode cX11_layer 23 = .ok (.iload_n 1, 1) := by decide +kernel
theorem dX11_layer_24 : decode cX11_layer 24 = .ok (.iaload, 1) := by decide +kernel
theorem dX11_layer_25 : decode cX11_layer 25 = .ok (.if_icmp .ge 12, 3) := by decide +kernel
theorem dX11_layer_28 : decode cX11_layer 28 = .ok (.iload_n 3, 1) := by decide +kernel
theorem dX11_layer_29 : decode cX11_layer 29 = .ok (.ifCond .lt 8, 3) := by decide +kernel
theorem dX11_layer_32 : decode cX11_layer 32 = .ok (.iload_n 3, 1) := by decide +kernel
theorem dX11_layer_33 : decode cX11_layer 33 = .ok (.iconst 2, 1) := by decide +kernel
theorem dX11_layer_34 : decode cX11_layer 34 = .ok (.if_icmp .le 5, 3) := by decide +kernel
theorem dX11_layer_37 : decode cX11_layer 37 = .ok (.iconst (-1), 1) := by decide +kernel
theorem dX11_layer_38 : decode cX11_layer 38 = .ok (.ireturn, 1) := by decide +kernel
theorem dX11_layer_39 : decode cX11_layer 39 = .ok (.aload_n 0, 1) := by decide +kernel
theorem dX11_layer_40 : decode cX11_layer 40 = .ok (.getfield 36, 3) := by decide +kernel
theorem dX11_layer_43 : decode cX11_layer 43 = .ok (.iload_n 1, 1) := by decide +kernel
theorem dX11_layer_44 : decode cX11_layer 44 = .ok (.iload_n 2, 1) := by decide +kernel
theorem dX11_layer_45 : decode cX11_layer 45 = .ok (.invokevirtual 184, 3) := by decide +kernel
theorem dX11_layer_48 : decode cX11_layer 48 = .ok (.istore 4, 2) := by decide +kernel
theorem dX11_layer_50 : decode cX11_layer 50 = .ok (.iload_n 3, 1) := by decide +kernel
theorem dX11_layer_51 : decode cX11_layer 51 = .ok (.ifCond .ne 11, 3) := by decide +kernel
theorem dX11_layer_54 : decode cX11_layer 54 = .ok (.iload 4, 2) := by decide +kernel
theorem dX11_layer_56 : decode cX11_layer 56 = .ok (.invokestatic 187, 3) := by decide +kernel
theorem dX11_layer_59 : decode cX11_layer 59 = .ok (.goto 21, 3) := by decide +kernel
theorem dX11_layer_62 : decode cX11_layer 62 = .ok (.iload_n 3, 1) := by decide +kernel
theorem dX11_layer_63 : decode cX11_layer 63 = .ok (.iconst 1, 1) := by decide +kernel
theorem dX11_layer_64 : decode cX11_layer 64 = .ok (.if_icmp .ne 11, 3) := by decide +kernel
theorem dX11_layer_67 : decode cX11_layer 67 = .ok (.iload 4, 2) := by decide +kernel
theorem dX11_layer_69 : decode cX11_layer 69 = .ok (.invokestatic 190, 3) := by decide +kernel
theorem dX11_layer_72 : decode cX11_layer 72 = .ok (.goto 8, 3) := by decide +kernel
theorem dX11_layer_75 : decode cX11_layer 75 = .ok (.iload 4, 2) := by decide +kernel
theorem dX11_layer_77 : decode cX11_layer 77 = .ok (.invokestatic 193, 3) := by decide +kernel
theorem dX11_layer_80 : decode cX11_layer 80 = .ok (.ireturn, 1) := by decide +kernel
set_option maxRecDepth 20000 in
def kX11_layer_0 (g : sk_G) (d ck sk : Nat) (Q : sk_P) : sk_K := o_aload 0 (o_getf 11 1 (o_iload 1 (o_invT (g, d, ck, sk, xX11_layer, Q) 2 1 7 (fun Q => kX7_hasCell_0 g (d - 1) 0 0 Q) (o_ifeq (o_i (-1) (o_iret (g, d, ck, sk, xX11_layer, Q))) (o_iload 2 (o_iflt (o_i (-1) (o_iret (g, d, ck, sk, xX11_layer, Q))) (o_iload 2 (o_aload 0 (o_getf 11 4 (o_getf 5 1 (o_iload 1 (o_iaload (o_icge (o_i (-1) (o_iret (g, d, ck, sk, xX11_layer, Q))) (o_iload 3 (o_iflt (o_i (-1) (o_iret (g, d, ck, sk, xX11_layer, Q))) (o_iload 3 (o_i (2) (o_icle (o_aload 0 (o_getf 11 4 (o_iload 1 (o_iload 2 (o_invT (g, d, ck, sk, xX11_layer, Q) 3 2 5 (fun Q => kX5_codeAt_0 g (d - 1) 0 0 Q) (o_istore 4 (o_iload 3 (o_ifne (o_iload 3 (o_i (1) (o_icne (o_iload 4 (o_stcT (g, d, ck, sk, xX11_layer, Q) 1 1 (fun Q => kX5_strengthIn_0 g (d - 1) 0 0 Q) (o_iret (g, d, ck, sk, xX11_layer, Q)))) (o_iload 4 (o_stcT (g, d, ck, sk, xX11_layer, Q) 1 1 (fun Q => kX5_handIn_0 g (d - 1) 0 0 Q) (o_iret (g, d, ck, sk, xX11_layer, Q))))))) (o_iload 4 (o_stcT (g, d, ck, sk, xX11_layer, Q) 1 1 (fun Q => kX5_letterIn_0 g (d - 1) 0 0 Q) (o_iret (g, d, ck, sk, xX11_layer, Q)))))))))))) (o_i (-1) (o_iret (g, d, ck, sk, xX11_layer, Q)))))))))))))))))))))
set_option maxRecDepth 20000 in
theorem tX11_layer_0 {g : sk_G} {d ck sk : Nat} {Q : sk_P} : sk_S (g, d, ck, sk, xX11_layer, Q) 0 (kX11_layer_0 g d ck sk Q) := s_aload_n dX11_layer_0 rfl (s_getf (ci := 11) (j := 1) (C := RX11) (T := TX11) (N := 17) dX11_layer_1 rfl (by decide) (by decide) qf_X11_19 (s_iload_n dX11_layer_4 rfl (s_invT (X := xX7_hasCell) (ci := 7) (T := TX7) (N := 4) (K := (fun Q => kX7_hasCell_0 g (d - 1) 0 0 Q)) (fun _ => tX7_hasCell_0) rfl dX11_layer_5 m_X7_hasCell rfl (by decide) qm_X11_178 qi_X7_hasCell qe_X7_hasCell (s_ifeq (tgt := 37) dX11_layer_8 (by decide) (s_iconst dX11_layer_37 (s_iret dX11_layer_38 rfl)) (s_iload_n dX11_layer_11 rfl (s_iflt (tgt := 37) dX11_layer_12 (by decide) (s_iconst dX11_layer_37 (s_iret dX11_layer_38 rfl)) (s_iload_n dX11_layer_15 rfl (s_aload_n dX11_layer_16 rfl (s_getf (ci := 11) (j := 4) (C := RX11) (T := TX11) (N := 17) dX11_layer_17 rfl (by decide) (by decide) qf_X11_36 (s_getfN (ci := 5) (j := 1) (C := RX5) (T := TX5) (N := 6) dX11_layer_20 rfl (by decide) (by decide) qn_X11_181 (s_iload_n dX11_layer_23 rfl (s_iaload dX11_layer_24 (s_icge (tgt := 37) dX11_layer_25 (by decide) (s_iconst dX11_layer_37 (s_iret dX11_layer_38 rfl)) (s_iload_n dX11_layer_28 rfl (s_iflt (tgt := 37) dX11_layer_29 (by decide) (s_iconst dX11_layer_37 (s_iret dX11_layer_38 rfl)) (s_iload_n dX11_layer_32 rfl (s_iconst dX11_layer_33 (s_icle (tgt := 39) dX11_layer_34 (by decide) (s_aload_n dX11_layer_39 rfl (s_getf (ci := 11) (j := 4) (C := RX11) (T := TX11) (N := 17) dX11_layer_40 rfl (by decide) (by decide) qf_X11_36 (s_iload_n dX11_layer_43 rfl (s_iload_n dX11_layer_44 rfl (s_invT (X := xX5_codeAt) (ci := 5) (T := TX5) (N := 6) (K := (fun Q => kX5_codeAt_0 g (d - 1) 0 0 Q)) (fun _ => tX5_codeAt_0) rfl dX11_layer_45 m_X5_codeAt rfl (by decide) qm_X11_184 qi_X5_codeAt qe_X5_codeAt (s_istore dX11_layer_48 (by decide : 4 < 5) (s_iload_n dX11_layer_50 rfl (s_ifne (tgt := 62) dX11_layer_51 (by decide) (s_iload_n dX11_layer_62 rfl (s_iconst dX11_layer_63 (s_icne (tgt := 75) dX11_layer_64 (by decide) (s_iload dX11_layer_75 (s_stcT (X := xX5_strengthIn) (K := (fun Q => kX5_strengthIn_0 g (d - 1) 0 0 Q)) (fun _ => tX5_strengthIn_0) rfl dX11_layer_77 m_X5_strengthIn qm_X11_193 qs_X5_strengthIn (s_iret dX11_layer_80 rfl))) (s_iload dX11_layer_67 (s_stcT (X := xX5_handIn) (K := (fun Q => kX5_handIn_0 g (d - 1) 0 0 Q)) (fun _ => tX5_handIn_0) rfl dX11_layer_69 m_X5_handIn qm_X11_190 qs_X5_handIn (s_goto (tgt := 80) dX11_layer_72 (by decide) (s_iret dX11_layer_80 rfl))))))) (s_iload dX11_layer_54 (s_stcT (X := xX5_letterIn) (K := (fun Q => kX5_letterIn_0 g (d - 1) 0 0 Q)) (fun _ => tX5_letterIn_0) rfl dX11_layer_56 m_X5_letterIn qm_X11_187 qs_X5_letterIn (s_goto (tgt := 80) dX11_layer_59 (by decide) (s_iret dX11_layer_80 rfl)))))))))))) (s_iconst dX11_layer_37 (s_iret dX11_layer_38 rfl))))))))))))))))))))
theorem dX11_law_0 : decode cX11_law 0 = .ok (.aload_n 0, 1) := by decide +kernel
theorem dX11_law_1 : decode cX11_law 1 = .ok (.getfield 29, 3) := by decide +kernel
theorem dX11_law_4 : decode cX11_law 4 = .ok (.iload_n 1, 1) := by decide +kernel
theorem dX11_law_5 : decode cX11_law 5 = .ok (.invokevirtual 196, 3) := by decide +kernel
theorem dX11_law_8 : decode cX11_law 8 = .ok (.ireturn, 1) := by decide +kernel
set_option maxRecDepth 20000 in
def kX11_law_0 (g : sk_G) (d ck sk : Nat) (Q : sk_P) : sk_K := o_aload 0 (o_getf 11 3 (o_iload 1 (o_invT (g, d, ck, sk, xX11_law, Q) 2 1 8 (fun Q => kX8_lets_0 g (d - 1) 0 0 Q) (o_zret (g, d, ck, sk, xX11_law, Q)))))
set_option maxRecDepth 20000 in
theorem tX11_law_0 {g : sk_G} {d ck sk : Nat} {Q : sk_P} : sk_S (g, d, ck, sk, xX11_law, Q) 0 (kX11_law_0 g d ck sk Q) := s_aload_n dX11_law_0 rfl (s_getf (ci := 11) (j := 3) (C := RX11) (T := TX11) (N := 17) dX11_law_1 rfl (by decide) (by decide) qf_X11_29 (s_iload_n dX11_law_4 rfl (s_invT (X := xX8_lets) (ci := 8) (T := TX8) (N := 7) (K := (fun Q => kX8_lets_0 g (d - 1) 0 0 Q)) (fun _ => tX8_lets_0) rfl dX11_law_5 m_X8_lets rfl (by decide) qm_X11_196 qi_X8_lets qe_X8_lets (s_zret dX11_law_8 rfl))))
theorem dX11_scribes_0 : decode cX11_scribes 0 = .ok (.iload_n 1, 1) := by decide +kernel
theorem dX11_scribes_1 : decode cX11_scribes 1 = .ok (.ifCond .lt 17, 3) := by decide +kernel
theorem dX11_scribes_4 : decode cX11_scribes 4 = .ok (.iload_n 1, 1) := by decide +kernel
theorem dX11_scribes_5 : decode cX11_scribes 5 = .ok (.bipush 9, 2) := by decide +kernel
theorem dX11_scribes_7 : decode cX11_scribes 7 = .ok (.if_icmp .gt 11, 3) := by decide +kernel
theorem dX11_scribes_10 : decode cX11_scribes 10 = .ok (.iload_n 1, 1) := by decide +kernel
theorem dX11_scribes_11 : decode cX11_scribes 11 = .ok (.aload_n 0, 1) := by decide +kernel
theorem dX11_scribes_12 : decode cX11_scribes 12 = .ok (.getfield 91, 3) := by decide +kernel
theorem dX11_scribes_15 : decode cX11_scribes 15 = .ok (.if_icmp .ne 5, 3) := by decide +kernel
theorem dX11_scribes_18 : decode cX11_scribes 18 = .ok (.iconst 0, 1) := by decide +kernel
theorem dX11_scribes_19 : decode cX11_scribes 19 = .ok (.ireturn, 1) := by decide +kernel
theorem dX11_scribes_20 : decode cX11_scribes 20 = .ok (.aload_n 0, 1) := by decide +kernel
theorem dX11_scribes_21 : decode cX11_scribes 21 = .ok (.iload_n 1, 1) := by decide +kernel
theorem dX11_scribes_22 : decode cX11_scribes 22 = .ok (.putfield 91, 3) := by decide +kernel
theorem dX11_scribes_25 : decode cX11_scribes 25 = .ok (.iconst 1, 1) := by decide +kernel
theorem dX11_scribes_26 : decode cX11_scribes 26 = .ok (.ireturn, 1) := by decide +kernel
set_option maxRecDepth 20000 in
def kX11_scribes_0 (g : sk_G) (d ck sk : Nat) (Q : sk_P) : sk_K := o_iload 1 (o_iflt (o_i (0) (o_zret (g, d, ck, sk, xX11_scribes, Q))) (o_iload 1 (o_i (9) (o_icgt (o_i (0) (o_zret (g, d, ck, sk, xX11_scribes, Q))) (o_iload 1 (o_aload 0 (o_getf 11 15 (o_icne (o_aload 0 (o_iload 1 (o_puti 11 15 (o_i (1) (o_zret (g, d, ck, sk, xX11_scribes, Q)))))) (o_i (0) (o_zret (g, d, ck, sk, xX11_scribes, Q)))))))))))
set_option maxRecDepth 20000 in
theorem tX11_scribes_0 {g : sk_G} {d ck sk : Nat} {Q : sk_P} : sk_S (g, d, ck, sk, xX11_scribes, Q) 0 (kX11_scribes_0 g d ck sk Q) := s_iload_n dX11_scribes_0 rfl (s_iflt (tgt := 18) dX11_scribes_1 (by decide) (s_iconst dX11_scribes_18 (s_zret dX11_scribes_19 rfl)) (s_iload_n dX11_scribes_4 rfl (s_bipush dX11_scribes_5 rfl (s_icgt (tgt := 18) dX11_scribes_7 (by decide) (s_iconst dX11_scribes_18 (s_zret dX11_scribes_19 rfl)) (s_iload_n dX11_scribes_10 rfl (s_aload_n dX11_scribes_11 rfl (s_getf (ci := 11) (j := 15) (C := RX11) (T := TX11) (N := 17) dX11_scribes_12 rfl (by decide) (by decide) qf_X11_91 (s_icne (tgt := 20) dX11_scribes_15 (by decide) (s_aload_n dX11_scribes_20 rfl (s_iload_n dX11_scribes_21 rfl (s_puti (ci := 11) (j := 15) (C := RX11) (T := TX11) (N := 17) dX11_scribes_22 rfl (by decide) (by decide) rfl (tyX11_ok 15 (by decide)) qf_X11_91 (s_iconst dX11_scribes_25 (s_zret dX11_scribes_26 rfl))))) (s_iconst dX11_scribes_18 (s_zret dX11_scribes_19 rfl))))))))))
theorem dX11_write_0 : decode cX11_write 0 = .ok (.aload_n 0, 1) := by decide +kernel
theorem dX11_write_1 : decode cX11_write 1 = .ok (.getfield 29, 3) := by decide +kernel
theorem dX11_write_4 : decode cX11_write 4 = .ok (.iload_n 1, 1) := by decide +kernel
theorem dX11_write_5 : decode cX11_write 5 = .ok (.invokevirtual 171, 3) := by decide +kernel
theorem dX11_write_8 : decode cX11_write 8 = .ok (.astore 5, 2) := by decide +kernel
theorem dX11_write_10 : decode cX11_write 10 = .ok (.aload 5, 2) := by decide +kernel
theorem dX11_write_12 : decode cX11_write 12 = .ok (.ifnull 14, 3) := by decide +kernel
theorem dX11_write_15 : decode cX11_write 15 = .ok (.aload_n 0, 1) := by decide +kernel
theorem dX11_write_16 : decode cX11_write 16 = .ok (.getfield 19, 3) := by decide +kernel
theorem dX11_write_19 : decode cX11_write 19 = .ok (.iload_n 2, 1) := by decide +kernel
theorem dX11_write_20 : decode cX11_write 20 = .ok (.invokevirtual 151, 3) := by decide +kernel
theorem dX11_write_23 : decode cX11_write 23 = .ok (.ifCond .ne 9, 3) := by decide +kernel
theorem dX11_write_26 : decode cX11_write 26 = .ok (.aload_n 0, 1) := by decide +kernel
theorem dX11_write_27 : decode cX11_write 27 = .ok (.iconst 0, 1) := by decide +kernel
theorem dX11_write_28 : decode cX11_write 28 = .ok (.invokevirtual 199, 3) := by decide +kernel
theorem dX11_write_31 : decode cX11_write 31 = .ok (.ireturn, 1) := by decide +kernel
theorem dX11_write_32 : decode cX11_write 32 = .ok (.aload_n 0, 1) := by decide +kernel
theorem dX11_write_33 : decode cX11_write 33 = .ok (.getfield 19, 3) := by decide +kernel
theorem dX11_write_36 : decode cX11_write 36 = .ok (.iload_n 3, 1) := by decide +kernel
theorem dX11_write_37 : decode cX11_write 37 = .ok (.invokevirtual 178, 3) := by decide +kernel
theorem dX11_write_40 : decode cX11_write 40 = .ok (.ifCond .eq 32, 3) := by decide +kernel
theorem dX11_write_43 : decode cX11_write 43 = .ok (.iload 4, 2) := by decide +kernel
theorem dX11_write_45 : decode cX11_write 45 = .ok (.ifCond .lt 27, 3) := by decide +kernel
theorem dX11_write_48 : decode cX11_write 48 = .ok (.iload 4, 2) := by decide +kernel
theorem dX11_write_50 : decode cX11_write 50 = .ok (.iconst 4, 1) := by decide +kernel
theorem dX11_write_51 : decode cX11_write 51 = .ok (.if_icmp .ge 21, 3) := by decide +kernel
theorem dX11_write_54 : decode cX11_write 54 = .ok (.aload_n 0, 1) := by decide +kernel
theorem dX11_write_55 : decode cX11_write 55 = .ok (.getfield 19, 3) := by decide +kernel
theorem dX11_write_58 : decode cX11_write 58 = .ok (.aload 5, 2) := by decide +kernel
theorem dX11_write_60 : decode cX11_write 60 = .ok (.iconst 4, 1) := by decide +kernel
theorem dX11_write_61 : decode cX11_write 61 = .ok (.iload_n 3, 1) := by decide +kernel
theorem dX11_write_62 : decode cX11_write 62 = .ok (.imul, 1) := by decide +kernel
theorem dX11_write_63 : decode cX11_write 63 = .ok (.iload 4, 2) := by decide +kernel
theorem dX11_write_65 : decode cX11_write 65 = .ok (.iadd, 1) := by decide +kernel
theorem dX11_write_66 : decode cX11_write 66 = .ok (.invokevirtual 202, 3) := by decide +kernel
theorem dX11_write_69 : decode cX11_write 69 = .ok (.ifCond .ne 9, 3) := by decide +kernel
theorem dX11_write_72 : decode cX11_write 72 = .ok (.aload_n 0, 1) := by decide +kernel
theorem dX11_write_73 : decode cX11_write 73 = .ok (.iconst 1, 1) := by decide +kernel
theorem dX11_write_74 : decode cX11_write 74 = .ok (.invokevirtual 199, 3) := by decide +kernel
theorem dX11_write_77 : decode cX11_write 77 = .ok (.ireturn, 1) := by decide +kernel
theorem dX11_write_78 : decode cX11_write 78 = .ok (.iconst 4, 1) := by decide +kernel
theorem dX11_write_79 : decode cX11_write 79 = .ok (.iload_n 3, 1) := by decide +kernel
theorem dX11_write_80 : decode cX11_write 80 = .ok (.imul, 1) := by decide +kernel
theorem dX11_write_81 : decode cX11_write 81 = .ok (.iload 4, 2) := by decide +kernel
theorem dX11_write_83 : decode cX11_write 83 = .ok (.iadd, 1) := by decide +kernel
theorem dX11_write_84 : decode cX11_write 84 = .ok (.istore 6, 2) := by decide +kernel
theorem dX11_write_86 : decode cX11_write 86 = .ok (.aload_n 0, 1) := by decide +kernel
theorem dX11_write_87 : decode cX11_write 87 = .ok (.getfield 36, 3) := by decide +kernel
theorem dX11_write_90 : decode cX11_write 90 = .ok (.getfield 145, 3) := by decide +kernel
theorem dX11_write_93 : decode cX11_write 93 = .ok (.aload 5, 2) := by decide +kernel
theorem dX11_write_95 : decode cX11_write 95 = .ok (.getfield 206, 3) := by decide +kernel
theorem dX11_write_98 : decode cX11_write 98 = .ok (.if_icmp .lt 14, 3) := by decide +kernel
theorem dX11_write_101 : decode cX11_write 101 = .ok (.aload_n 0, 1) := by decide +kernel
theorem dX11_write_102 : decode cX11_write 102 = .ok (.aload 5, 2) := by decide +kernel
theorem dX11_write_104 : decode cX11_write 104 = .ok (.iload 6, 2) := by decide +kernel
theorem dX11_write_106 : decode cX11_write 106 = .ok (.invokevirtual 209, 3) := by decide +kernel
theorem dX11_write_109 : decode cX11_write 109 = .ok (.ifCond .ne 9, 3) := by decide +kernel
theorem dX11_write_112 : decode cX11_write 112 = .ok (.aload_n 0, 1) := by decide +kernel
theorem dX11_write_113 : decode cX11_write 113 = .ok (.iconst 3, 1) := by decide +kernel
theorem dX11_write_114 : decode cX11_write 114 = .ok (.invokevirtual 199, 3) := by decide +kernel
theorem dX11_write_117 : decode cX11_write 117 = .ok (.ireturn, 1) := by decide +kernel
theorem dX11_write_118 : decode cX11_write 118 = .ok (.aload_n 0, 1) := by decide +kernel
theorem dX11_write_119 : decode cX11_write 119 = .ok (.getfield 53, 3) := by decide +kernel
theorem dX11_write_122 : decode cX11_write 122 = .ok (.aload_n 0, 1) := by decide +kernel
theorem dX11_write_123 : decode cX11_write 123 = .ok (.getfield 36, 3) := by decide +kernel
theorem dX11_write_126 : decode cX11_write 126 = .ok (.invokevirtual 212, 3) := by decide +kernel
theorem dX11_write_129 : decode cX11_write 129 = .ok (.aload_n 0, 1) := by decide +kernel
theorem dX11_write_130 : decode cX11_write 130 = .ok (.getfield 36, 3) := by decide +kernel
theorem dX11_write_133 : decode cX11_write 133 = .ok (.dup, 1) := by decide +kernel
theorem dX11_write_134 : decode cX11_write 134 = .ok (.getfield 145, 3) := by decide +kernel
theorem dX11_write_137 : decode cX11_write 137 = .ok (.aload 5, 2) := by decide +kernel
theorem dX11_write_139 : decode cX11_write 139 = .ok (.getfield 206, 3) := by decide +kernel
theorem dX11_write_142 : decode cX11_write 142 = .ok (.isub, 1) := by decide +kernel
theorem dX11_write_143 : decode cX11_write 143 = .ok (.putfield 145, 3) := by decide +kernel
theorem dX11_write_146 : decode cX11_write 146 = .ok (.aload_n 0, 1) := by decide +kernel
theorem dX11_write_147 : decode cX11_write 147 = .ok (.aload 5, 2) := by decide +kernel
theorem dX11_write_149 : decode cX11_write 149 = .ok (.iload_n 2, 1) := by decide +kernel
theorem dX11_write_150 : decode cX11_write 150 = .ok (.iload 6, 2) := by decide +kernel
theorem dX11_write_152 : decode cX11_write 152 = .ok (.invokevirtual 216, 3) := by decide +kernel
theorem dX11_write_155 : decode cX11_write 155 = .ok (.aload_n 0, 1) := by decide +kernel
theorem dX11_write_156 : decode cX11_write 156 = .ok (.getfield 36, 3) := by decide +kernel
theorem dX11_write_159 : decode cX11_write 159 = .ok (.invokevirtual 220, 3) := by decide +kernel
theorem dX11_write_162 : decode cX11_write 162 = .ok (.ireturn, 1) := by decide +kernel
set_option maxRecDepth 20000 in
def kX11_write_0 (g : sk_G) (d ck sk : Nat) (Q : sk_P) : sk_K := o_aload 0 (o_getf 11 3 (o_iload 1 (o_invT (g, d, ck, sk, xX11_write, Q) 2 1 8 (fun Q => kX8_writingAt_0 g (d - 1) 0 0 Q) (o_astore 5 (o_aload 5 (o_ifnull (o_aload 0 (o_i (0) (o_invT (g, d, ck, sk, xX11_write, Q) 2 1 11 (fun Q => kX11_refuse_0 g (d - 1) 0 0 Q) (o_iret (g, d, ck, sk, xX11_write, Q))))) (o_aload 0 (o_getf 11 1 (o_iload 2 (o_invT (g, d, ck, sk, xX11_write, Q) 2 1 7 (fun Q => kX7_hasHand_0 g (d - 1) 0 0 Q) (o_ifne (o_aload 0 (o_getf 11 1 (o_iload 3 (o_invT (g, d, ck, sk, xX11_write, Q) 2 1 7 (fun Q => kX7_hasCell_0 g (d - 1) 0 0 Q) (o_ifeq (o_aload 0 (o_i (1) (o_invT (g, d, ck, sk, xX11_write, Q) 2 1 11 (fun Q => kX11_refuse_0 g (d - 1) 0 0 Q) (o_iret (g, d, ck, sk, xX11_write, Q))))) (o_iload 4 (o_iflt (o_aload 0 (o_i (1) (o_invT (g, d, ck, sk, xX11_write, Q) 2 1 11 (fun Q => kX11_refuse_0 g (d - 1) 0 0 Q) (o_iret (g, d, ck, sk, xX11_write, Q))))) (o_iload 4 (o_i (4) (o_icge (o_aload 0 (o_i (1) (o_invT (g, d, ck, sk, xX11_write, Q) 2 1 11 (fun Q => kX11_refuse_0 g (d - 1) 0 0 Q) (o_iret (g, d, ck, sk, xX11_write, Q))))) (o_aload 0 (o_getf 11 1 (o_aload 5 (o_i (4) (o_iload 3 (o_imul (o_iload 4 (o_iadd (o_invB (g, d, ck, sk, xX11_write, Q) xX7_does 2 7 0 0 (o_ifne (o_i (4) (o_iload 3 (o_imul (o_iload 4 (o_iadd (o_istore 6 (o_aload 0 (o_getf 11 4 (o_getf 5 2 (o_aload 5 (o_getf 10 6 (o_iclt (o_aload 0 (o_i (3) (o_invT (g, d, ck, sk, xX11_write, Q) 2 1 11 (fun Q => kX11_refuse_0 g (d - 1) 0 0 Q) (o_iret (g, d, ck, sk, xX11_write, Q))))) (o_aload 0 (o_aload 5 (o_iload 6 (o_invB (g, d, ck, sk, xX11_write, Q) xX11_hasRoom 2 11 0 0 (o_ifne (o_aload 0 (o_getf 11 7 (o_aload 0 (o_getf 11 4 (o_invB (g, d, ck, sk, xX11_write, Q) xX0_keep 1 0 3 286 (o_aload 0 (o_getf 11 4 (o_dup (o_getf 5 2 (o_aload 5 (o_getf 10 6 (o_isub (o_puti 5 2 (o_aload 0 (o_aload 5 (o_iload 2 (o_iload 6 (o_invB (g, d, ck - 3, sk - 286, xX11_write, Q) xX11_layDown 3 11 0 0 (o_aload 0 (o_getf 11 4 (o_invB (g, d, ck - 3, sk - 286, xX11_write, Q) xX5_layersInAll 0 5 0 0 (o_iret (g, d, ck - 3, sk - 286, xX11_write, Q))))))))))))))))))))))) (o_aload 0 (o_i (3) (o_invT (g, d, ck, sk, xX11_write, Q) 2 1 11 (fun Q => kX11_refuse_0 g (d - 1) 0 0 Q) (o_iret (g, d, ck, sk, xX11_write, Q)))))))))))))))))))))) (o_aload 0 (o_i (1) (o_invT (g, d, ck, sk, xX11_write, Q) 2 1 11 (fun Q => kX11_refuse_0 g (d - 1) 0 0 Q) (o_iret (g, d, ck, sk, xX11_write, Q))))))))))))))))))))))))) (o_aload 0 (o_i (0) (o_invT (g, d, ck, sk, xX11_write, Q) 2 1 11 (fun Q => kX11_refuse_0 g (d - 1) 0 0 Q) (o_iret (g, d, ck, sk, xX11_write, Q))))))))))))))))
set_option maxRecDepth 20000 in
theorem tX11_write_0 {g : sk_G} {d ck sk : Nat} {Q : sk_P} : sk_S (g, d, ck, sk, xX11_write, Q) 0 (kX11_write_0 g d ck sk Q) := s_aload_n dX11_write_0 rfl (s_getf (ci := 11) (j := 3) (C := RX11) (T := TX11) (N := 17) dX11_write_1 rfl (by decide) (by decide) qf_X11_29 (s_iload_n dX11_write_4 rfl (s_invT (X := xX8_writingAt) (ci := 8) (T := TX8) (N := 7) (K := (fun Q => kX8_writingAt_0 g (d - 1) 0 0 Q)) (fun _ => tX8_writingAt_0) rfl dX11_write_5 m_X8_writingAt rfl (by decide) qm_X11_171 qi_X8_writingAt qe_X8_writingAt (s_astore dX11_write_8 (by decide : 5 < 7) (s_aload dX11_write_10 (s_ifnull (tgt := 26) dX11_write_12 (by decide) (s_aload_n dX11_write_26 rfl (s_iconst dX11_write_27 (s_invT (X := xX11_refuse) (ci := 11) (T := TX11) (N := 17) (K := (fun Q => kX11_refuse_0 g (d - 1) 0 0 Q)) (fun _ => tX11_refuse_0) rfl dX11_write_28 m_X11_refuse rfl (by decide) qm_X11_199 qi_X11_refuse qe_X11_refuse (s_iret dX11_write_31 rfl)))) (s_aload_n dX11_write_15 rfl (s_getf (ci := 11) (j := 1) (C := RX11) (T := TX11) (N := 17) dX11_write_16 rfl (by decide) (by decide) qf_X11_19 (s_iload_n dX11_write_19 rfl (s_invT (X := xX7_hasHand) (ci := 7) (T := TX7) (N := 4) (K := (fun Q => kX7_hasHand_0 g (d - 1) 0 0 Q)) (fun _ => tX7_hasHand_0) rfl dX11_write_20 m_X7_hasHand rfl (by decide) qm_X11_151 qi_X7_hasHand qe_X7_hasHand (s_ifne (tgt := 32) dX11_write_23 (by decide) (s_aload_n dX11_write_32 rfl (s_getf (ci := 11) (j := 1) (C := RX11) (T := TX11) (N := 17) dX11_write_33 rfl (by decide) (by decide) qf_X11_19 (s_iload_n dX11_write_36 rfl (s_invT (X := xX7_hasCell) (ci := 7) (T := TX7) (N := 4) (K := (fun Q => kX7_hasCell_0 g (d - 1) 0 0 Q)) (fun _ => tX7_hasCell_0) rfl dX11_write_37 m_X7_hasCell rfl (by decide) qm_X11_178 qi_X7_hasCell qe_X7_hasCell (s_ifeq (tgt := 72) dX11_write_40 (by decide) (s_aload_n dX11_write_72 rfl (s_iconst dX11_write_73 (s_invT (X := xX11_refuse) (ci := 11) (T := TX11) (N := 17) (K := (fun Q => kX11_refuse_0 g (d - 1) 0 0 Q)) (fun _ => tX11_refuse_0) rfl dX11_write_74 m_X11_refuse rfl (by decide) qm_X11_199 qi_X11_refuse qe_X11_refuse (s_iret dX11_write_77 rfl)))) (s_iload dX11_write_43 (s_iflt (tgt := 72) dX11_write_45 (by decide) (s_aload_n dX11_write_72 rfl (s_iconst dX11_write_73 (s_invT (X := xX11_refuse) (ci := 11) (T := TX11) (N := 17) (K := (fun Q => kX11_refuse_0 g (d - 1) 0 0 Q)) (fun _ => tX11_refuse_0) rfl dX11_write_74 m_X11_refuse rfl (by decide) qm_X11_199 qi_X11_refuse qe_X11_refuse (s_iret dX11_write_77 rfl)))) (s_iload dX11_write_48 (s_iconst dX11_write_50 (s_icge (tgt := 72) dX11_write_51 (by decide) (s_aload_n dX11_write_72 rfl (s_iconst dX11_write_73 (s_invT (X := xX11_refuse) (ci := 11) (T := TX11) (N := 17) (K := (fun Q => kX11_refuse_0 g (d - 1) 0 0 Q)) (fun _ => tX11_refuse_0) rfl dX11_write_74 m_X11_refuse rfl (by decide) qm_X11_199 qi_X11_refuse qe_X11_refuse (s_iret dX11_write_77 rfl)))) (s_aload_n dX11_write_54 rfl (s_getf (ci := 11) (j := 1) (C := RX11) (T := TX11) (N := 17) dX11_write_55 rfl (by decide) (by decide) qf_X11_19 (s_aload dX11_write_58 (s_iconst dX11_write_60 (s_iload_n dX11_write_61 rfl (s_imul dX11_write_62 (s_iload dX11_write_63 (s_iadd dX11_write_65 (s_invB (w' := (g, d, ck, sk, xX11_write, Q)) (ci := 7) (ck := 0) (sk := 0) (T := TX7) (N := 4) dX11_write_66 m_X7_does rfl (by decide) qm_X11_202 qi_X7_does qe_X7_does rfl (s_ifne (tgt := 78) dX11_write_69 (by decide) (s_iconst dX11_write_78 (s_iload_n dX11_write_79 rfl (s_imul dX11_write_80 (s_iload dX11_write_81 (s_iadd dX11_write_83 (s_istore dX11_write_84 (by decide : 6 < 7) (s_aload_n dX11_write_86 rfl (s_getf (ci := 11) (j := 4) (C := RX11) (T := TX11) (N := 17) dX11_write_87 rfl (by decide) (by decide) qf_X11_36 (s_getfN (ci := 5) (j := 2) (C := RX5) (T := TX5) (N := 6) dX11_write_90 rfl (by decide) (by decide) qn_X11_145 (s_aload dX11_write_93 (s_getfN (ci := 10) (j := 6) (C := RX10) (T := TX10) (N := 9) dX11_write_95 rfl (by decide) (by decide) qn_X11_206 (s_iclt (tgt := 112) dX11_write_98 (by decide) (s_aload_n dX11_write_112 rfl (s_iconst dX11_write_113 (s_invT (X := xX11_refuse) (ci := 11) (T := TX11) (N := 17) (K := (fun Q => kX11_refuse_0 g (d - 1) 0 0 Q)) (fun _ => tX11_refuse_0) rfl dX11_write_114 m_X11_refuse rfl (by decide) qm_X11_199 qi_X11_refuse qe_X11_refuse (s_iret dX11_write_117 rfl)))) (s_aload_n dX11_write_101 rfl (s_aload dX11_write_102 (s_iload dX11_write_104 (s_invB (w' := (g, d, ck, sk, xX11_write, Q)) (ci := 11) (ck := 0) (sk := 0) (T := TX11) (N := 17) dX11_write_106 m_X11_hasRoom rfl (by decide) qm_X11_209 qi_X11_hasRoom qe_X11_hasRoom rfl (s_ifne (tgt := 118) dX11_write_109 (by decide) (s_aload_n dX11_write_118 rfl (s_getf (ci := 11) (j := 7) (C := RX11) (T := TX11) (N := 17) dX11_write_119 rfl (by decide) (by decide) qf_X11_53 (s_aload_n dX11_write_122 rfl (s_getf (ci := 11) (j := 4) (C := RX11) (T := TX11) (N := 17) dX11_write_123 rfl (by decide) (by decide) qf_X11_36 (s_invB (w' := (g, d, ck - 3, sk - 286, xX11_write, Q)) (ci := 0) (ck := 3) (sk := 286) (T := TX0) (N := 6) dX11_write_126 m_X0_keep rfl (by decide) qm_X11_212 qi_X0_keep qe_X0_keep rfl (s_aload_n dX11_write_129 rfl (s_getf (ci := 11) (j := 4) (C := RX11) (T := TX11) (N := 17) dX11_write_130 rfl (by decide) (by decide) qf_X11_36 (s_dup dX11_write_133 (s_getfN (ci := 5) (j := 2) (C := RX5) (T := TX5) (N := 6) dX11_write_134 rfl (by decide) (by decide) qn_X11_145 (s_aload dX11_write_137 (s_getfN (ci := 10) (j := 6) (C := RX10) (T := TX10) (N := 9) dX11_write_139 rfl (by decide) (by decide) qn_X11_206 (s_isub dX11_write_142 (s_putiN (ci := 5) (j := 2) (C := RX5) (T := TX5) (N := 6) dX11_write_143 rfl (by decide) (by decide) rfl (tyX5_ok 2 (by decide)) qn_X11_145 (s_aload_n dX11_write_146 rfl (s_aload dX11_write_147 (s_iload_n dX11_write_149 rfl (s_iload dX11_write_150 (s_invB (w' := (g, d, ck - 3, sk - 286, xX11_write, Q)) (ci := 11) (ck := 0) (sk := 0) (T := TX11) (N := 17) dX11_write_152 m_X11_layDown rfl (by decide) qm_X11_216 qi_X11_layDown qe_X11_layDown rfl (s_aload_n dX11_write_155 rfl (s_getf (ci := 11) (j := 4) (C := RX11) (T := TX11) (N := 17) dX11_write_156 rfl (by decide) (by decide) qf_X11_36 (s_invB (w' := (g, d, ck - 3, sk - 286, xX11_write, Q)) (ci := 5) (ck := 0) (sk := 0) (T := TX5) (N := 6) dX11_write_159 m_X5_layersInAll rfl (by decide) qm_X11_220 qi_X5_layersInAll qe_X5_layersInAll rfl (s_iret dX11_write_162 rfl)))))))))))))))))))))) (s_aload_n dX11_write_112 rfl (s_iconst dX11_write_113 (s_invT (X := xX11_refuse) (ci := 11) (T := TX11) (N := 17) (K := (fun Q => kX11_refuse_0 g (d - 1) 0 0 Q)) (fun _ => tX11_refuse_0) rfl dX11_write_114 m_X11_refuse rfl (by decide) qm_X11_199 qi_X11_refuse qe_X11_refuse (s_iret dX11_write_117 rfl))))))))))))))))))))) (s_aload_n dX11_write_72 rfl (s_iconst dX11_write_73 (s_invT (X := xX11_refuse) (ci := 11) (T := TX11) (N := 17) (K := (fun Q => kX11_refuse_0 g (d - 1) 0 0 Q)) (fun _ => tX11_refuse_0) rfl dX11_write_74 m_X11_refuse rfl (by decide) qm_X11_199 qi_X11_refuse qe_X11_refuse (s_iret dX11_write_77 rfl)))))))))))))))))))))))) (s_aload_n dX11_write_26 rfl (s_iconst dX11_write_27 (s_invT (X := xX11_refuse) (ci := 11) (T := TX11) (N := 17) (K := (fun Q => kX11_refuse_0 g (d - 1) 0 0 Q)) (fun _ => tX11_refuse_0) rfl dX11_write_28 m_X11_refuse rfl (by decide) qm_X11_199 qi_X11_refuse qe_X11_refuse (s_iret dX11_write_31 rfl)))))))))))))))
theorem dX11_hasRoom_0 : decode cX11_hasRoom 0 = .ok (.iconst 0, 1) := by decide +kernel
theorem dX11_hasRoom_1 : decode cX11_hasRoom 1 = .ok (.istore_n 3, 1) := by decide +kernel
theorem dX11_hasRoom_2 : decode cX11_hasRoom 2 = .ok (.iload_n 3, 1) := by decide +kernel
theorem dX11_hasRoom_3 : decode cX11_hasRoom 3 = .ok (.aload_n 1, 1) := by decide +kernel
theorem dX11_hasRoom_4 : decode cX11_hasRoom 4 = .ok (.getfield 305, 3) := by decide +kernel
theorem dX11_hasRoom_7 : decode cX11_hasRoom 7 = .ok (.if_icmp .ge 42, 3) := by decide +kernel
theorem dX11_hasRoom_10 : decode cX11_hasRoom 10 = .ok (.aload_n 1, 1) := by decide +kernel
theorem dX11_hasRoom_11 : decode cX11_hasRoom 11 = .ok (.iload_n 3, 1) := by decide +kernel
theorem dX11_hasRoom_12 : decode cX11_hasRoom 12 = .ok (.invokevirtual 312, 3) := by decide +kernel
theorem dX11_hasRoom_15 : decode cX11_hasRoom 15 = .ok (.ifCond .eq 28, 3) := by decide +kernel
theorem dX11_hasRoom_18 : decode cX11_hasRoom 18 = .ok (.aload_n 0, 1) := by decide +kernel
theorem dX11_hasRoom_19 : decode cX11_hasRoom 19 = .ok (.getfield 36, 3) := by decide +kernel
theorem dX11_hasRoom_22 : decode cX11_hasRoom 22 = .ok (.getfield 181, 3) := by decide +kernel
theorem dX11_hasRoom_25 : decode cX11_hasRoom 25 = .ok (.aload_n 0, 1) := by decide +kernel
theorem dX11_hasRoom_26 : decode cX11_hasRoom 26 = .ok (.getfield 19, 3) := by decide +kernel
theorem dX11_hasRoom_29 : decode cX11_hasRoom 29 = .ok (.aload_n 1, 1) := by decide +kernel
theorem dX11_hasRoom_30 : decode cX11_hasRoom 30 = .ok (.iload_n 3, 1) := by decide +kernel
theorem dX11_hasRoom_31 : decode cX11_hasRoom 31 = .ok (.iload_n 2, 1) := by decide +kernel
theorem dX11_hasRoom_32 : decode cX11_hasRoom 32 = .ok (.invokevirtual 308, 3) := by decide +kernel
theorem dX11_hasRoom_35 : decode cX11_hasRoom 35 = .ok (.iaload, 1) := by decide +kernel
theorem dX11_hasRoom_36 : decode cX11_hasRoom 36 = .ok (.bipush 6, 2) := by decide +kernel
theorem dX11_hasRoom_38 : decode cX11_hasRoom 38 = .ok (.if_icmp .lt 5, 3) := by decide +kernel
theorem dX11_hasRoom_41 : decode cX11_hasRoom 41 = .ok (.iconst 0, 1) := by decide +kernel
theorem dX11_hasRoom_42 : decode cX11_hasRoom 42 = .ok (.ireturn, 1) := by decide +kernel
theorem dX11_hasRoom_43 : decode cX11_hasRoom 43 = .ok (.iinc 3 1, 3) := by decide +kernel
theorem dX11_hasRoom_46 : decode cX11_hasRoom 46 = .ok (.goto (-44), 3) := by decide +kernel
theorem dX11_hasRoom_49 : decode cX11_hasRoom 49 = .ok (.iconst 1, 1) := by decide +kernel
theorem dX11_hasRoom_50 : decode cX11_hasRoom 50 = .ok (.ireturn, 1) := by decide +kernel
def kX11_hasRoom_0 (g : sk_G) (d ck sk : Nat) (Q : sk_P) : sk_K := o_i (0) (o_istore 3 (sk_B (g, d, ck, sk, xX11_hasRoom, Q) 2))
theorem tX11_hasRoom_0 {g : sk_G} {d ck sk : Nat} {Q : sk_P} : sk_S (g, d, ck, sk, xX11_hasRoom, Q) 0 (kX11_hasRoom_0 g d ck sk Q) := s_iconst dX11_hasRoom_0 (s_istore_n dX11_hasRoom_1 rfl (by decide : 3 < 4) (sk_id))
set_option maxRecDepth 20000 in
def kX11_hasRoom_2 (g : sk_G) (d ck sk : Nat) (Q : sk_P) : sk_K := o_iload 3 (o_aload 1 (o_getf 10 5 (o_icge (o_i (1) (o_zret (g, d, ck, sk, xX11_hasRoom, Q))) (o_aload 1 (o_iload 3 (o_invT (g, d, ck, sk, xX11_hasRoom, Q) 2 1 10 (fun Q => kX10_isLetter_0 g (d - 1) 0 0 Q) (o_ifeq (o_iinc 3 (1) (sk_B (g, d, ck, sk, xX11_hasRoom, Q) 2)) (o_aload 0 (o_getf 11 4 (o_getf 5 1 (o_aload 0 (o_getf 11 1 (o_aload 1 (o_iload 3 (o_iload 2 (o_invB (g, d, ck, sk, xX11_hasRoom, Q) xX7_cellOf 3 7 0 0 (o_iaload (o_i (6) (o_iclt (o_iinc 3 (1) (sk_B (g, d, ck, sk, xX11_hasRoom, Q) 2)) (o_i (0) (o_zret (g, d, ck, sk, xX11_hasRoom, Q))))))))))))))))))))))
set_option maxRecDepth 20000 in
theorem tX11_hasRoom_2 {g : sk_G} {d ck sk : Nat} {Q : sk_P} : sk_S (g, d, ck, sk, xX11_hasRoom, Q) 2 (kX11_hasRoom_2 g d ck sk Q) := s_iload_n dX11_hasRoom_2 rfl (s_aload_n dX11_hasRoom_3 rfl (s_getfN (ci := 10) (j := 5) (C := RX10) (T := TX10) (N := 9) dX11_hasRoom_4 rfl (by decide) (by decide) qn_X11_305 (s_icge (tgt := 49) dX11_hasRoom_7 (by decide) (s_iconst dX11_hasRoom_49 (s_zret dX11_hasRoom_50 rfl)) (s_aload_n dX11_hasRoom_10 rfl (s_iload_n dX11_hasRoom_11 rfl (s_invT (X := xX10_isLetter) (ci := 10) (T := TX10) (N := 9) (K := (fun Q => kX10_isLetter_0 g (d - 1) 0 0 Q)) (fun _ => tX10_isLetter_0) rfl dX11_hasRoom_12 m_X10_isLetter rfl (by decide) qm_X11_312 qi_X10_isLetter qe_X10_isLetter (s_ifeq (tgt := 43) dX11_hasRoom_15 (by decide) (s_iinc dX11_hasRoom_43 (by decide : 3 < 4) (s_goto (tgt := 2) dX11_hasRoom_46 (by decide) (sk_id))) (s_aload_n dX11_hasRoom_18 rfl (s_getf (ci := 11) (j := 4) (C := RX11) (T := TX11) (N := 17) dX11_hasRoom_19 rfl (by decide) (by decide) qf_X11_36 (s_getfN (ci := 5) (j := 1) (C := RX5) (T := TX5) (N := 6) dX11_hasRoom_22 rfl (by decide) (by decide) qn_X11_181 (s_aload_n dX11_hasRoom_25 rfl (s_getf (ci := 11) (j := 1) (C := RX11) (T := TX11) (N := 17) dX11_hasRoom_26 rfl (by decide) (by decide) qf_X11_19 (s_aload_n dX11_hasRoom_29 rfl (s_iload_n dX11_hasRoom_30 rfl (s_iload_n dX11_hasRoom_31 rfl (s_invB (w' := (g, d, ck, sk, xX11_hasRoom, Q)) (ci := 7) (ck := 0) (sk := 0) (T := TX7) (N := 4) dX11_hasRoom_32 m_X7_cellOf rfl (by decide) qm_X11_308 qi_X7_cellOf qe_X7_cellOf rfl (s_iaload dX11_hasRoom_35 (s_bipush dX11_hasRoom_36 rfl (s_iclt (tgt := 43) dX11_hasRoom_38 (by decide) (s_iinc dX11_hasRoom_43 (by decide : 3 < 4) (s_goto (tgt := 2) dX11_hasRoom_46 (by decide) (sk_id))) (s_iconst dX11_hasRoom_41 (s_zret dX11_hasRoom_42 rfl)))))))))))))))))))))
theorem dX11_layDown_0 : decode cX11_layDown 0 = .ok (.iconst 0, 1) := by decide +kernel
theorem dX11_layDown_1 : decode cX11_layDown 1 = .ok (.istore 4, 2) := by decide +kernel
theorem dX11_layDown_3 : decode cX11_layDown 3 = .ok (.iload 4, 2) := by decide +kernel
theorem dX11_layDown_5 : decode cX11_layDown 5 = .ok (.aload_n 1, 1) := by decide +kernel
theorem dX11_layDown_6 : decode cX11_layDown 6 = .ok (.getfield 305, 3) := by decide +kernel
theorem dX11_layDown_9 : decode cX11_layDown 9 = .ok (.if_icmp .ge 53, 3) := by decide +kernel
theorem dX11_layDown_12 : decode cX11_layDown 12 = .ok (.aload_n 1, 1) := by decide +kernel
theorem dX11_layDown_13 : decode cX11_layDown 13 = .ok (.iload 4, 2) := by decide +kernel
theorem dX11_layDown_15 : decode cX11_layDown 15 = .ok (.invokevirtual 312, 3) := by decide +kernel
theorem dX11_layDown_18 : decode cX11_layDown 18 = .ok (.ifCond .eq 38, 3) := by decide +kernel
theorem dX11_layDown_21 : decode cX11_layDown 21 = .ok (.aload_n 0, 1) := by decide +kernel
theorem dX11_layDown_22 : decode cX11_layDown 22 = .ok (.getfield 36, 3) := by decide +kernel
theorem dX11_layDown_25 : decode cX11_layDown 25 = .ok (.aload_n 0, 1) := by decide +kernel
theorem dX11_layDown_26 : decode cX11_layDown 26 = .ok (.getfield 19, 3) := by decide +kernel
theorem dX11_layDown_29 : decode cX11_layDown 29 = .ok (.aload_n 1, 1) := by decide +kernel
theorem dX11_layDown_30 : decode cX11_layDown 30 = .ok (.iload 4, 2) := by decide +kernel
theorem dX11_layDown_32 : decode cX11_layDown 32 = .ok (.iload_n 3, 1) := by decide +kernel
theorem dX11_layDown_33 : decode cX11_layDown 33 = .ok (.invokevirtual 308, 3) := by decide +kernel
theorem dX11_layDown_36 : decode cX11_layDown 36 = .ok (.aload_n 1, 1) := by decide +kernel
theorem dX11_layDown_37 : decode cX11_layDown 37 = .ok (.getfield 315, 3) := by decide +kernel
theorem dX11_layDown_40 : decode cX11_layDown 40 = .ok (.iload 4, 2) := by decide +kernel
theorem dX11_layDown_42 : decode cX11_layDown 42 = .ok (.iaload, 1) := by decide +kernel
theorem dX11_layDown_43 : decode cX11_layDown 43 = .ok (.iload_n 2, 1) := by decide +kernel
theorem dX11_layDown_44 : decode cX11_layDown 44 = .ok (.aload_n 0, 1) := by decide +kernel
theorem dX11_layDown_45 : decode cX11_layDown 45 = .ok (.getfield 19, 3) := by decide +kernel
theorem dX11_layDown_48 : decode cX11_layDown 48 = .ok (.iload_n 2, 1) := by decide +kernel
theorem dX11_layDown_49 : decode cX11_layDown 49 = .ok (.iconst 0, 1) := by decide +kernel
theorem dX11_layDown_50 : decode cX11_layDown 50 = .ok (.invokevirtual 161, 3) := by decide +kernel
theorem dX11_layDown_53 : decode cX11_layDown 53 = .ok (.invokevirtual 425, 3) := by decide +kernel
theorem dX11_layDown_56 : decode cX11_layDown 56 = .ok (.iinc 4 1, 3) := by decide +kernel
theorem dX11_layDown_59 : decode cX11_layDown 59 = .ok (.goto (-56), 3) := by decide +kernel
theorem dX11_layDown_62 : decode cX11_layDown 62 = .ok (.return_, 1) := by decide +kernel
def kX11_layDown_0 (g : sk_G) (d ck sk : Nat) (Q : sk_P) : sk_K := o_i (0) (o_istore 4 (sk_B (g, d, ck, sk, xX11_layDown, Q) 3))
theorem tX11_layDown_0 {g : sk_G} {d ck sk : Nat} {Q : sk_P} : sk_S (g, d, ck, sk, xX11_layDown, Q) 0 (kX11_layDown_0 g d ck sk Q) := s_iconst dX11_layDown_0 (s_istore dX11_layDown_1 (by decide : 4 < 5) (sk_id))
set_option maxRecDepth 20000 in
def kX11_layDown_3 (g : sk_G) (d ck sk : Nat) (Q : sk_P) : sk_K := o_iload 4 (o_aload 1 (o_getf 10 5 (o_icge (o_ret (g, d, ck, sk, xX11_layDown, Q)) (o_aload 1 (o_iload 4 (o_invT (g, d, ck, sk, xX11_layDown, Q) 2 1 10 (fun Q => kX10_isLetter_0 g (d - 1) 0 0 Q) (o_ifeq (o_iinc 4 (1) (sk_B (g, d, ck, sk, xX11_layDown, Q) 3)) (o_aload 0 (o_getf 11 4 (o_aload 0 (o_getf 11 1 (o_aload 1 (o_iload 4 (o_iload 3 (o_invB (g, d, ck, sk, xX11_layDown, Q) xX7_cellOf 3 7 0 0 (o_aload 1 (o_getf 10 0 (o_iload 4 (o_iaload (o_iload 2 (o_aload 0 (o_getf 11 1 (o_iload 2 (o_i (0) (o_invT (g, d, ck, sk, xX11_layDown, Q) 3 2 7 (fun Q => kX7_ofHand_0 g (d - 1) 0 0 Q) (o_invB (g, d, ck, sk, xX11_layDown, Q) xX5_lay 4 5 0 0 (o_iinc 4 (1) (sk_B (g, d, ck, sk, xX11_layDown, Q) 3))))))))))))))))))))))))))))
set_option maxRecDepth 20000 in
theorem tX11_layDown_3 {g : sk_G} {d ck sk : Nat} {Q : sk_P} : sk_S (g, d, ck, sk, xX11_layDown, Q) 3 (kX11_layDown_3 g d ck sk Q) := s_iload dX11_layDown_3 (s_aload_n dX11_layDown_5 rfl (s_getfN (ci := 10) (j := 5) (C := RX10) (T := TX10) (N := 9) dX11_layDown_6 rfl (by decide) (by decide) qn_X11_305 (s_icge (tgt := 62) dX11_layDown_9 (by decide) (s_ret dX11_layDown_62 rfl) (s_aload_n dX11_layDown_12 rfl (s_iload dX11_layDown_13 (s_invT (X := xX10_isLetter) (ci := 10) (T := TX10) (N := 9) (K := (fun Q => kX10_isLetter_0 g (d - 1) 0 0 Q)) (fun _ => tX10_isLetter_0) rfl dX11_layDown_15 m_X10_isLetter rfl (by decide) qm_X11_312 qi_X10_isLetter qe_X10_isLetter (s_ifeq (tgt := 56) dX11_layDown_18 (by decide) (s_iinc dX11_layDown_56 (by decide : 4 < 5) (s_goto (tgt := 3) dX11_layDown_59 (by decide) (sk_id))) (s_aload_n dX11_layDown_21 rfl (s_getf (ci := 11) (j := 4) (C := RX11) (T := TX11) (N := 17) dX11_layDown_22 rfl (by decide) (by decide) qf_X11_36 (s_aload_n dX11_layDown_25 rfl (s_getf (ci := 11) (j := 1) (C := RX11) (T := TX11) (N := 17) dX11_layDown_26 rfl (by decide) (by decide) qf_X11_19 (s_aload_n dX11_layDown_29 rfl (s_iload dX11_layDown_30 (s_iload_n dX11_layDown_32 rfl (s_invB (w' := (g, d, ck, sk, xX11_layDown, Q)) (ci := 7) (ck := 0) (sk := 0) (T := TX7) (N := 4) dX11_layDown_33 m_X7_cellOf rfl (by decide) qm_X11_308 qi_X7_cellOf qe_X7_cellOf rfl (s_aload_n dX11_layDown_36 rfl (s_getfN (ci := 10) (j := 0) (C := RX10) (T := TX10) (N := 9) dX11_layDown_37 rfl (by decide) (by decide) qn_X11_315 (s_iload dX11_layDown_40 (s_iaload dX11_layDown_42 (s_iload_n dX11_layDown_43 rfl (s_aload_n dX11_layDown_44 rfl (s_getf (ci := 11) (j := 1) (C := RX11) (T := TX11) (N := 17) dX11_layDown_45 rfl (by decide) (by decide) qf_X11_19 (s_iload_n dX11_layDown_48 rfl (s_iconst dX11_layDown_49 (s_invT (X := xX7_ofHand) (ci := 7) (T := TX7) (N := 4) (K := (fun Q => kX7_ofHand_0 g (d - 1) 0 0 Q)) (fun _ => tX7_ofHand_0) rfl dX11_layDown_50 m_X7_ofHand rfl (by decide) qm_X11_161 qi_X7_ofHand qe_X7_ofHand (s_invB (w' := (g, d, ck, sk, xX11_layDown, Q)) (ci := 5) (ck := 0) (sk := 0) (T := TX5) (N := 6) dX11_layDown_53 m_X5_lay rfl (by decide) qm_X11_425 qi_X5_lay qe_X5_lay rfl (s_iinc dX11_layDown_56 (by decide : 4 < 5) (s_goto (tgt := 3) dX11_layDown_59 (by decide) (sk_id)))))))))))))))))))))))))))))
theorem dX11_scrape_0 : decode cX11_scrape 0 = .ok (.aload_n 0, 1) := by decide +kernel
theorem dX11_scrape_1 : decode cX11_scrape 1 = .ok (.getfield 19, 3) := by decide +kernel
theorem dX11_scrape_4 : decode cX11_scrape 4 = .ok (.invokevirtual 141, 3) := by decide +kernel
theorem dX11_scrape_7 : decode cX11_scrape 7 = .ok (.ifCond .ne 9, 3) := by decide +kernel
theorem dX11_scrape_10 : decode cX11_scrape 10 = .ok (.aload_n 0, 1) := by decide +kernel
theorem dX11_scrape_11 : decode cX11_scrape 11 = .ok (.iconst 0, 1) := by decide +kernel
theorem dX11_scrape_12 : decode cX11_scrape 12 = .ok (.invokevirtual 199, 3) := by decide +kernel
theorem dX11_scrape_15 : decode cX11_scrape 15 = .ok (.ireturn, 1) := by decide +kernel
theorem dX11_scrape_16 : decode cX11_scrape 16 = .ok (.aload_n 0, 1) := by decide +kernel
theorem dX11_scrape_17 : decode cX11_scrape 17 = .ok (.getfield 19, 3) := by decide +kernel
theorem dX11_scrape_20 : decode cX11_scrape 20 = .ok (.iload_n 1, 1) := by decide +kernel
theorem dX11_scrape_21 : decode cX11_scrape 21 = .ok (.invokevirtual 223, 3) := by decide +kernel
theorem dX11_scrape_24 : decode cX11_scrape 24 = .ok (.ifCond .eq 14, 3) := by decide +kernel
theorem dX11_scrape_27 : decode cX11_scrape 27 = .ok (.iload_n 2, 1) := by decide +kernel
theorem dX11_scrape_28 : decode cX11_scrape 28 = .ok (.iconst 1, 1) := by decide +kernel
theorem dX11_scrape_29 : decode cX11_scrape 29 = .ok (.if_icmp .lt 9, 3) := by decide +kernel
theorem dX11_scrape_32 : decode cX11_scrape 32 = .ok (.iload_n 2, 1) := by decide +kernel
theorem dX11_scrape_33 : decode cX11_scrape 33 = .ok (.bipush 9, 2) := by decide +kernel
theorem dX11_scrape_35 : decode cX11_scrape 35 = .ok (.if_icmp .le 9, 3) := by decide +kernel
theorem dX11_scrape_38 : decode cX11_scrape 38 = .ok (.aload_n 0, 1) := by decide +kernel
theorem dX11_scrape_39 : decode cX11_scrape 39 = .ok (.iconst 1, 1) := by decide +kernel
theorem dX11_scrape_40 : decode cX11_scrape 40 = .ok (.invokevirtual 199, 3) := by decide +kernel
theorem dX11_scrape_43 : decode cX11_scrape 43 = .ok (.ireturn, 1) := by decide +kernel
theorem dX11_scrape_44 : decode cX11_scrape 44 = .ok (.aload_n 0, 1) := by decide +kernel
theorem dX11_scrape_45 : decode cX11_scrape 45 = .ok (.iload_n 1, 1) := by decide +kernel
theorem dX11_scrape_46 : decode cX11_scrape 46 = .ok (.invokevirtual 226, 3) := by decide +kernel
theorem dX11_scrape_49 : decode cX11_scrape 49 = .ok (.ifCond .ne 9, 3) := by decide +kernel
theorem dX11_scrape_52 : decode cX11_scrape 52 = .ok (.aload_n 0, 1) := by decide +kernel
theorem dX11_scrape_53 : decode cX11_scrape 53 = .ok (.iconst 2, 1) := by decide +kernel
theorem dX11_scrape_54 : decode cX11_scrape 54 = .ok (.invokevirtual 199, 3) := by decide +kernel
theorem dX11_scrape_57 : decode cX11_scrape 57 = .ok (.ireturn, 1) := by decide +kernel
theorem dX11_scrape_58 : decode cX11_scrape 58 = .ok (.aload_n 0, 1) := by decide +kernel
theorem dX11_scrape_59 : decode cX11_scrape 59 = .ok (.getfield 36, 3) := by decide +kernel
theorem dX11_scrape_62 : decode cX11_scrape 62 = .ok (.getfield 145, 3) := by decide +kernel
theorem dX11_scrape_65 : decode cX11_scrape 65 = .ok (.iconst 1, 1) := by decide +kernel
theorem dX11_scrape_66 : decode cX11_scrape 66 = .ok (.if_icmp .ge 9, 3) := by decide +kernel
theorem dX11_scrape_69 : decode cX11_scrape 69 = .ok (.aload_n 0, 1) := by decide +kernel
theorem dX11_scrape_70 : decode cX11_scrape 70 = .ok (.iconst 3, 1) := by decide +kernel
theorem dX11_scrape_71 : decode cX11_scrape 71 = .ok (.invokevirtual 199, 3) := by decide +kernel
theorem dX11_scrape_74 : decode cX11_scrape 74 = .ok (.ireturn, 1) := by decide +kernel
theorem dX11_scrape_75 : decode cX11_scrape 75 = .ok (.aload_n 0, 1) := by decide +kernel
theorem dX11_scrape_76 : decode cX11_scrape 76 = .ok (.getfield 53, 3) := by decide +kernel
theorem dX11_scrape_79 : decode cX11_scrape 79 = .ok (.aload_n 0, 1) := by decide +kernel
theorem dX11_scrape_80 : decode cX11_scrape 80 = .ok (.getfield 36, 3) := by decide +kernel
theorem dX11_scrape_83 : decode cX11_scrape 83 = .ok (.invokevirtual 212, 3) := by decide +kernel
theorem dX11_scrape_86 : decode cX11_scrape 86 = .ok (.aload_n 0, 1) := by decide +kernel
theorem dX11_scrape_87 : decode cX11_scrape 87 = .ok (.getfield 36, 3) := by decide +kernel
theorem dX11_scrape_90 : decode cX11_scrape 90 = .ok (.dup, 1) := by decide +kernel
theorem dX11_scrape_91 : decode cX11_scrape 91 = .ok (.getfield 145, 3) := by decide +kernel
theorem dX11_scrape_94 : decode cX11_scrape 94 = .ok (.iconst 1, 1) := by decide +kernel
theorem dX11_scrape_95 : decode cX11_scrape 95 = .ok (.isub, 1) := by decide +kernel
theorem dX11_scrape_96 : decode cX11_scrape 96 = .ok (.putfield 145, 3) := by decide +kernel
theorem dX11_scrape_99 : decode cX11_scrape 99 = .ok (.aload_n 0, 1) := by decide +kernel
theorem dX11_scrape_100 : decode cX11_scrape 100 = .ok (.aload_n 0, 1) := by decide +kernel
theorem dX11_scrape_101 : decode cX11_scrape 101 = .ok (.getfield 36, 3) := by decide +kernel
theorem dX11_scrape_104 : decode cX11_scrape 104 = .ok (.iload_n 1, 1) := by decide +kernel
theorem dX11_scrape_105 : decode cX11_scrape 105 = .ok (.iload_n 2, 1) := by decide +kernel
theorem dX11_scrape_106 : decode cX11_scrape 106 = .ok (.invokevirtual 229, 3) := by decide +kernel
theorem dX11_scrape_109 : decode cX11_scrape 109 = .ok (.ireturn, 1) := by decide +kernel
set_option maxRecDepth 20000 in
def kX11_scrape_0 (g : sk_G) (d ck sk : Nat) (Q : sk_P) : sk_K := o_aload 0 (o_getf 11 1 (o_invT (g, d, ck, sk, xX11_scrape, Q) 1 0 7 (fun Q => kX7_isSkin_0 g (d - 1) 0 0 Q) (o_ifne (o_aload 0 (o_getf 11 1 (o_iload 1 (o_invT (g, d, ck, sk, xX11_scrape, Q) 2 1 7 (fun Q => kX7_hasRow_0 g (d - 1) 0 0 Q) (o_ifeq (o_aload 0 (o_i (1) (o_invT (g, d, ck, sk, xX11_scrape, Q) 2 1 11 (fun Q => kX11_refuse_0 g (d - 1) 0 0 Q) (o_iret (g, d, ck, sk, xX11_scrape, Q))))) (o_iload 2 (o_i (1) (o_iclt (o_aload 0 (o_i (1) (o_invT (g, d, ck, sk, xX11_scrape, Q) 2 1 11 (fun Q => kX11_refuse_0 g (d - 1) 0 0 Q) (o_iret (g, d, ck, sk, xX11_scrape, Q))))) (o_iload 2 (o_i (9) (o_icle (o_aload 0 (o_iload 1 (o_invB (g, d, ck, sk, xX11_scrape, Q) xX11_layersInRow 1 11 0 0 (o_ifne (o_aload 0 (o_getf 11 4 (o_getf 5 2 (o_i (1) (o_icge (o_aload 0 (o_getf 11 7 (o_aload 0 (o_getf 11 4 (o_invB (g, d, ck, sk, xX11_scrape, Q) xX0_keep 1 0 3 286 (o_aload 0 (o_getf 11 4 (o_dup (o_getf 5 2 (o_i (1) (o_isub (o_puti 5 2 (o_aload 0 (o_aload 0 (o_getf 11 4 (o_iload 1 (o_iload 2 (o_invB (g, d, ck - 3, sk - 286, xX11_scrape, Q) xX11_scrapeRow 3 11 0 0 (o_iret (g, d, ck - 3, sk - 286, xX11_scrape, Q)))))))))))))))))))) (o_aload 0 (o_i (3) (o_invT (g, d, ck, sk, xX11_scrape, Q) 2 1 11 (fun Q => kX11_refuse_0 g (d - 1) 0 0 Q) (o_iret (g, d, ck, sk, xX11_scrape, Q)))))))))) (o_aload 0 (o_i (2) (o_invT (g, d, ck, sk, xX11_scrape, Q) 2 1 11 (fun Q => kX11_refuse_0 g (d - 1) 0 0 Q) (o_iret (g, d, ck, sk, xX11_scrape, Q))))))))) (o_aload 0 (o_i (1) (o_invT (g, d, ck, sk, xX11_scrape, Q) 2 1 11 (fun Q => kX11_refuse_0 g (d - 1) 0 0 Q) (o_iret (g, d, ck, sk, xX11_scrape, Q)))))))))))))))) (o_aload 0 (o_i (0) (o_invT (g, d, ck, sk, xX11_scrape, Q) 2 1 11 (fun Q => kX11_refuse_0 g (d - 1) 0 0 Q) (o_iret (g, d, ck, sk, xX11_scrape, Q))))))))
set_option maxRecDepth 20000 in
theorem tX11_scrape_0 {g : sk_G} {d ck sk : Nat} {Q : sk_P} : sk_S (g, d, ck, sk, xX11_scrape, Q) 0 (kX11_scrape_0 g d ck sk Q) := s_aload_n dX11_scrape_0 rfl (s_getf (ci := 11) (j := 1) (C := RX11) (T := TX11) (N := 17) dX11_scrape_1 rfl (by decide) (by decide) qf_X11_19 (s_invT (X := xX7_isSkin) (ci := 7) (T := TX7) (N := 4) (K := (fun Q => kX7_isSkin_0 g (d - 1) 0 0 Q)) (fun _ => tX7_isSkin_0) rfl dX11_scrape_4 m_X7_isSkin rfl (by decide) qm_X11_141 qi_X7_isSkin qe_X7_isSkin (s_ifne (tgt := 16) dX11_scrape_7 (by decide) (s_aload_n dX11_scrape_16 rfl (s_getf (ci := 11) (j := 1) (C := RX11) (T := TX11) (N := 17) dX11_scrape_17 rfl (by decide) (by decide) qf_X11_19 (s_iload_n dX11_scrape_20 rfl (s_invT (X := xX7_hasRow) (ci := 7) (T := TX7) (N := 4) (K := (fun Q => kX7_hasRow_0 g (d - 1) 0 0 Q)) (fun _ => tX7_hasRow_0) rfl dX11_scrape_21 m_X7_hasRow rfl (by decide) qm_X11_223 qi_X7_hasRow qe_X7_hasRow (s_ifeq (tgt := 38) dX11_scrape_24 (by decide) (s_aload_n dX11_scrape_38 rfl (s_iconst dX11_scrape_39 (s_invT (X := xX11_refuse) (ci := 11) (T := TX11) (N := 17) (K := (fun Q => kX11_refuse_0 g (d - 1) 0 0 Q)) (fun _ => tX11_refuse_0) rfl dX11_scrape_40 m_X11_refuse rfl (by decide) qm_X11_199 qi_X11_refuse qe_X11_refuse (s_iret dX11_scrape_43 rfl)))) (s_iload_n dX11_scrape_27 rfl (s_iconst dX11_scrape_28 (s_iclt (tgt := 38) dX11_scrape_29 (by decide) (s_aload_n dX11_scrape_38 rfl (s_iconst dX11_scrape_39 (s_invT (X := xX11_refuse) (ci := 11) (T := TX11) (N := 17) (K := (fun Q => kX11_refuse_0 g (d - 1) 0 0 Q)) (fun _ => tX11_refuse_0) rfl dX11_scrape_40 m_X11_refuse rfl (by decide) qm_X11_199 qi_X11_refuse qe_X11_refuse (s_iret dX11_scrape_43 rfl)))) (s_iload_n dX11_scrape_32 rfl (s_bipush dX11_scrape_33 rfl (s_icle (tgt := 44) dX11_scrape_35 (by decide) (s_aload_n dX11_scrape_44 rfl (s_iload_n dX11_scrape_45 rfl (s_invB (w' := (g, d, ck, sk, xX11_scrape, Q)) (ci := 11) (ck := 0) (sk := 0) (T := TX11) (N := 17) dX11_scrape_46 m_X11_layersInRow rfl (by decide) qm_X11_226 qi_X11_layersInRow qe_X11_layersInRow rfl (s_ifne (tgt := 58) dX11_scrape_49 (by decide) (s_aload_n dX11_scrape_58 rfl (s_getf (ci := 11) (j := 4) (C := RX11) (T := TX11) (N := 17) dX11_scrape_59 rfl (by decide) (by decide) qf_X11_36 (s_getfN (ci := 5) (j := 2) (C := RX5) (T := TX5) (N := 6) dX11_scrape_62 rfl (by decide) (by decide) qn_X11_145 (s_iconst dX11_scrape_65 (s_icge (tgt := 75) dX11_scrape_66 (by decide) (s_aload_n dX11_scrape_75 rfl (s_getf (ci := 11) (j := 7) (C := RX11) (T := TX11) (N := 17) dX11_scrape_76 rfl (by decide) (by decide) qf_X11_53 (s_aload_n dX11_scrape_79 rfl (s_getf (ci := 11) (j := 4) (C := RX11) (T := TX11) (N := 17) dX11_scrape_80 rfl (by decide) (by decide) qf_X11_36 (s_invB (w' := (g, d, ck - 3, sk - 286, xX11_scrape, Q)) (ci := 0) (ck := 3) (sk := 286) (T := TX0) (N := 6) dX11_scrape_83 m_X0_keep rfl (by decide) qm_X11_212 qi_X0_keep qe_X0_keep rfl (s_aload_n dX11_scrape_86 rfl (s_getf (ci := 11) (j := 4) (C := RX11) (T := TX11) (N := 17) dX11_scrape_87 rfl (by decide) (by decide) qf_X11_36 (s_dup dX11_scrape_90 (s_getfN (ci := 5) (j := 2) (C := RX5) (T := TX5) (N := 6) dX11_scrape_91 rfl (by decide) (by decide) qn_X11_145 (s_iconst dX11_scrape_94 (s_isub dX11_scrape_95 (s_putiN (ci := 5) (j := 2) (C := RX5) (T := TX5) (N := 6) dX11_scrape_96 rfl (by decide) (by decide) rfl (tyX5_ok 2 (by decide)) qn_X11_145 (s_aload_n dX11_scrape_99 rfl (s_aload_n dX11_scrape_100 rfl (s_getf (ci := 11) (j := 4) (C := RX11) (T := TX11) (N := 17) dX11_scrape_101 rfl (by decide) (by decide) qf_X11_36 (s_iload_n dX11_scrape_104 rfl (s_iload_n dX11_scrape_105 rfl (s_invB (w' := (g, d, ck - 3, sk - 286, xX11_scrape, Q)) (ci := 11) (ck := 0) (sk := 0) (T := TX11) (N := 17) dX11_scrape_106 m_X11_scrapeRow rfl (by decide) qm_X11_229 qi_X11_scrapeRow qe_X11_scrapeRow rfl (s_iret dX11_scrape_109 rfl))))))))))))))))))) (s_aload_n dX11_scrape_69 rfl (s_iconst dX11_scrape_70 (s_invT (X := xX11_refuse) (ci := 11) (T := TX11) (N := 17) (K := (fun Q => kX11_refuse_0 g (d - 1) 0 0 Q)) (fun _ => tX11_refuse_0) rfl dX11_scrape_71 m_X11_refuse rfl (by decide) qm_X11_199 qi_X11_refuse qe_X11_refuse (s_iret dX11_scrape_74 rfl))))))))) (s_aload_n dX11_scrape_52 rfl (s_iconst dX11_scrape_53 (s_invT (X := xX11_refuse) (ci := 11) (T := TX11) (N := 17) (K := (fun Q => kX11_refuse_0 g (d - 1) 0 0 Q)) (fun _ => tX11_refuse_0) rfl dX11_scrape_54 m_X11_refuse rfl (by decide) qm_X11_199 qi_X11_refuse qe_X11_refuse (s_iret dX11_scrape_57 rfl)))))))) (s_aload_n dX11_scrape_38 rfl (s_iconst dX11_scrape_39 (s_invT (X := xX11_refuse) (ci := 11) (T := TX11) (N := 17) (K := (fun Q => kX11_refuse_0 g (d - 1) 0 0 Q)) (fun _ => tX11_refuse_0) rfl dX11_scrape_40 m_X11_refuse rfl (by decide) qm_X11_199 qi_X11_refuse qe_X11_refuse (s_iret dX11_scrape_43 rfl))))))))))))))) (s_aload_n dX11_scrape_10 rfl (s_iconst dX11_scrape_11 (s_invT (X := xX11_refuse) (ci := 11) (T := TX11) (N := 17) (K := (fun Q => kX11_refuse_0 g (d - 1) 0 0 Q)) (fun _ => tX11_refuse_0) rfl dX11_scrape_12 m_X11_refuse rfl (by decide) qm_X11_199 qi_X11_refuse qe_X11_refuse (s_iret dX11_scrape_15 rfl)))))))
