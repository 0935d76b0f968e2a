theorem dJ7_fill_53178_0 : decode cJ7_fill_53178 0 = .ok (.iconst 0, 1) := by decide +kernel
theorem dJ7_fill_53178_1 : decode cJ7_fill_53178 1 = .ok (.istore_n 2, 1) := by decide +kernel
theorem dJ7_fill_53178_2 : decode cJ7_fill_53178 2 = .ok (.aload_n 0, 1) := by decide +kernel
theorem dJ7_fill_53178_3 : decode cJ7_fill_53178 3 = .ok (.arraylength, 1) := by decide +kernel
theorem dJ7_fill_53178_4 : decode cJ7_fill_53178 4 = .ok (.istore_n 3, 1) := by decide +kernel
theorem dJ7_fill_53178_5 : decode cJ7_fill_53178 5 = .ok (.iload_n 2, 1) := by decide +kernel
theorem dJ7_fill_53178_6 : decode cJ7_fill_53178 6 = .ok (.iload_n 3, 1) := by decide +kernel
theorem dJ7_fill_53178_7 : decode cJ7_fill_53178 7 = .ok (.if_icmp .ge 13, 3) := by decide +kernel
theorem dJ7_fill_53178_10 : decode cJ7_fill_53178 10 = .ok (.aload_n 0, 1) := by decide +kernel
theorem dJ7_fill_53178_11 : decode cJ7_fill_53178 11 = .ok (.iload_n 2, 1) := by decide +kernel
theorem dJ7_fill_53178_12 : decode cJ7_fill_53178 12 = .ok (.iload_n 1, 1) := by decide +kernel
theorem dJ7_fill_53178_13 : decode cJ7_fill_53178 13 = .ok (.iastore, 1) := by decide +kernel
theorem dJ7_fill_53178_14 : decode cJ7_fill_53178 14 = .ok (.iinc 2 1, 3) := by decide +kernel
theorem dJ7_fill_53178_17 : decode cJ7_fill_53178 17 = .ok (.goto (-12), 3) := by decide +kernel
theorem dJ7_fill_53178_20 : decode cJ7_fill_53178 20 = .ok (.return_, 1) := by decide +kernel
def kJ7_fill_53178_0 (g : sk_G) (d ck sk : Nat) (Q : sk_P) : sk_K := o_i (0) (o_istore 2 (o_aload 0 (o_alen (o_istore 3 (sk_B (g, d, ck, sk, xJ7_fill_53178, Q) 5)))))
theorem tJ7_fill_53178_0 {g : sk_G} {d ck sk : Nat} {Q : sk_P} : sk_S (g, d, ck, sk, xJ7_fill_53178, Q) 0 (kJ7_fill_53178_0 g d ck sk Q) := s_iconst dJ7_fill_53178_0 (s_istore_n dJ7_fill_53178_1 rfl (by decide : 2 < 4) (s_aload_n dJ7_fill_53178_2 rfl (s_alen dJ7_fill_53178_3 (s_istore_n dJ7_fill_53178_4 rfl (by decide : 3 < 4) (sk_id)))))
def kJ7_fill_53178_5 (g : sk_G) (d ck sk : Nat) (Q : sk_P) : sk_K := o_iload 2 (o_iload 3 (o_icge (o_ret (g, d, ck, sk, xJ7_fill_53178, Q)) (o_aload 0 (o_iload 2 (o_iload 1 (o_iastore (o_iinc 2 (1) (sk_B (g, d, ck, sk, xJ7_fill_53178, Q) 5))))))))
theorem tJ7_fill_53178_5 {g : sk_G} {d ck sk : Nat} {Q : sk_P} : sk_S (g, d, ck, sk, xJ7_fill_53178, Q) 5 (kJ7_fill_53178_5 g d ck sk Q) := s_iload_n dJ7_fill_53178_5 rfl (s_iload_n dJ7_fill_53178_6 rfl (s_icge (tgt := 20) dJ7_fill_53178_7 (by decide) (s_ret dJ7_fill_53178_20 rfl) (s_aload_n dJ7_fill_53178_10 rfl (s_iload_n dJ7_fill_53178_11 rfl (s_iload_n dJ7_fill_53178_12 rfl (s_iastore dJ7_fill_53178_13 (s_iinc dJ7_fill_53178_14 (by decide : 2 < 4) (s_goto (tgt := 5) dJ7_fill_53178_17 (by decide) (sk_id)))))))))
theorem dJ9_floorMod_7cf53_0 : decode cJ9_floorMod_7cf53 0 = .ok (.iload_n 0, 1) := by decide +kernel
theorem dJ9_floorMod_7cf53_1 : decode cJ9_floorMod_7cf53 1 = .ok (.iload_n 1, 1) := by decide +kernel
theorem dJ9_floorMod_7cf53_2 : decode cJ9_floorMod_7cf53 2 = .ok (.irem, 1) := by decide +kernel
theorem dJ9_floorMod_7cf53_3 : decode cJ9_floorMod_7cf53 3 = .ok (.istore_n 2, 1) := by decide +kernel
theorem dJ9_floorMod_7cf53_4 : decode cJ9_floorMod_7cf53 4 = .ok (.iload_n 0, 1) := by decide +kernel
theorem dJ9_floorMod_7cf53_5 : decode cJ9_floorMod_7cf53 5 = .ok (.iload_n 1, 1) := by decide +kernel
theorem dJ9_floorMod_7cf53_6 : decode cJ9_floorMod_7cf53 6 = .ok (.ixor, 1) := by decide +kernel
theorem dJ9_floorMod_7cf53_7 : decode cJ9_floorMod_7cf53 7 = .ok (.ifCond .ge 11, 3) := by decide +kernel
theorem dJ9_floorMod_7cf53_10 : decode cJ9_floorMod_7cf53 10 = .ok (.iload_n 2, 1) := by decide +kernel
theorem dJ9_floorMod_7cf53_11 : decode cJ9_floorMod_7cf53 11 = .ok (.ifCond .eq 7, 3) := by decide +kernel
theorem dJ9_floorMod_7cf53_14 : decode cJ9_floorMod_7cf53 14 = .ok (.iload_n 2, 1) := by decide +kernel
theorem dJ9_floorMod_7cf53_15 : decode cJ9_floorMod_7cf53 15 = .ok (.iload_n 1, 1) := by decide +kernel
theorem dJ9_floorMod_7cf53_16 : decode cJ9_floorMod_7cf53 16 = .ok (.iadd, 1) := by decide +kernel
theorem dJ9_floorMod_7cf53_17 : decode cJ9_floorMod_7cf53 17 = .ok (.ireturn, 1) := by decide +kernel
theorem dJ9_floorMod_7cf53_18 : decode cJ9_floorMod_7cf53 18 = .ok (.iload_n 2, 1) := by decide +kernel
theorem dJ9_floorMod_7cf53_19 : decode cJ9_floorMod_7cf53 19 = .ok (.ireturn, 1) := by decide +kernel
set_option maxRecDepth 20000 in
def kJ9_floorMod_7cf53_0 (g : sk_G) (d ck sk : Nat) (Q : sk_P) : sk_K := o_iload 0 (o_iload 1 (o_irem (o_istore 2 (o_iload 0 (o_iload 1 (o_ixor (o_ifge (o_iload 2 (o_iret (g, d, ck, sk, xJ9_floorMod_7cf53, Q))) (o_iload 2 (o_ifeq (o_iload 2 (o_iret (g, d, ck, sk, xJ9_floorMod_7cf53, Q))) (o_iload 2 (o_iload 1 (o_iadd (o_iret (g, d, ck, sk, xJ9_floorMod_7cf53, Q))))))))))))))
set_option maxRecDepth 20000 in
theorem tJ9_floorMod_7cf53_0 {g : sk_G} {d ck sk : Nat} {Q : sk_P} : sk_S (g, d, ck, sk, xJ9_floorMod_7cf53, Q) 0 (kJ9_floorMod_7cf53_0 g d ck sk Q) := s_iload_n dJ9_floorMod_7cf53_0 rfl (s_iload_n dJ9_floorMod_7cf53_1 rfl (s_irem dJ9_floorMod_7cf53_2 (s_istore_n dJ9_floorMod_7cf53_3 rfl (by decide : 2 < 3) (s_iload_n dJ9_floorMod_7cf53_4 rfl (s_iload_n dJ9_floorMod_7cf53_5 rfl (s_ixor dJ9_floorMod_7cf53_6 (s_ifge (tgt := 18) dJ9_floorMod_7cf53_7 (by decide) (s_iload_n dJ9_floorMod_7cf53_18 rfl (s_iret dJ9_floorMod_7cf53_19 rfl)) (s_iload_n dJ9_floorMod_7cf53_10 rfl (s_ifeq (tgt := 18) dJ9_floorMod_7cf53_11 (by decide) (s_iload_n dJ9_floorMod_7cf53_18 rfl (s_iret dJ9_floorMod_7cf53_19 rfl)) (s_iload_n dJ9_floorMod_7cf53_14 rfl (s_iload_n dJ9_floorMod_7cf53_15 rfl (s_iadd dJ9_floorMod_7cf53_16 (s_iret dJ9_floorMod_7cf53_17 rfl)))))))))))))
