theorem dX11_game_0 : decode cX11_game 0 = .ok (.aload_n 0, 1) := by decide +kernel
theorem dX11_game_1 : decode cX11_game 1 = .ok (.getfield 19, 3) := by decide +kernel
theorem dX11_game_4 : decode cX11_game 4 = .ok (.iload_n 1, 1) := by decide +kernel
theorem dX11_game_5 : decode cX11_game 5 = .ok (.invokevirtual 223, 3) := by decide +kernel
theorem dX11_game_8 : decode cX11_game 8 = .ok (.ifCond .eq 32, 3) := by decide +kernel
theorem dX11_game_11 : decode cX11_game 11 = .ok (.iload_n 2, 1) := by decide +kernel
theorem dX11_game_12 : decode cX11_game 12 = .ok (.ifCond .lt 28, 3) := by decide +kernel
theorem dX11_game_15 : decode cX11_game 15 = .ok (.iload_n 2, 1) := by decide +kernel
theorem dX11_game_16 : decode cX11_game 16 = .ok (.iconst 4, 1) := by decide +kernel
theorem dX11_game_17 : decode cX11_game 17 = .ok (.if_icmp .ge 23, 3) := by decide +kernel
theorem dX11_game_20 : decode cX11_game 20 = .ok (.iload_n 3, 1) := by decide +kernel
theorem dX11_game_21 : decode cX11_game 21 = .ok (.ifCond .lt 19, 3) := by decide +kernel
theorem dX11_game_24 : decode cX11_game 24 = .ok (.iload_n 3, 1) := by decide +kernel
theorem dX11_game_25 : decode cX11_game 25 = .ok (.iconst 3, 1) := by decide +kernel
theorem dX11_game_26 : decode cX11_game 26 = .ok (.if_icmp .ge 14, 3) := by decide +kernel
theorem dX11_game_29 : decode cX11_game 29 = .ok (.iload 4, 2) := by decide +kernel
theorem dX11_game_31 : decode cX11_game 31 = .ok (.ifCond .lt 9, 3) := by decide +kernel
theorem dX11_game_34 : decode cX11_game 34 = .ok (.iload 4, 2) := by decide +kernel
theorem dX11_game_36 : decode cX11_game 36 = .ok (.iconst 1, 1) := by decide +kernel
theorem dX11_game_37 : decode cX11_game 37 = .ok (.if_icmp .le 7, 3) := by decide +kernel
theorem dX11_game_40 : decode cX11_game 40 = .ok (.ldc_w 368, 3) := by decide +kernel
theorem dX11_game_43 : decode cX11_game 43 = .ok (.ireturn, 1) := by decide +kernel
theorem dX11_game_44 : decode cX11_game 44 = .ok (.aload_n 0, 1) := by decide +kernel
theorem dX11_game_45 : decode cX11_game 45 = .ok (.iload_n 1, 1) := by decide +kernel
theorem dX11_game_46 : decode cX11_game 46 = .ok (.invokevirtual 369, 3) := by decide +kernel
theorem dX11_game_49 : decode cX11_game 49 = .ok (.iload 4, 2) := by decide +kernel
theorem dX11_game_51 : decode cX11_game 51 = .ok (.ifCond .ne 12, 3) := by decide +kernel
theorem dX11_game_54 : decode cX11_game 54 = .ok (.aload_n 0, 1) := by decide +kernel
theorem dX11_game_55 : decode cX11_game 55 = .ok (.getfield 85, 3) := by decide +kernel
theorem dX11_game_58 : decode cX11_game 58 = .ok (.iload_n 2, 1) := by decide +kernel
theorem dX11_game_59 : decode cX11_game 59 = .ok (.iaload, 1) := by decide +kernel
theorem dX11_game_60 : decode cX11_game 60 = .ok (.goto 13, 3) := by decide +kernel
theorem dX11_game_63 : decode cX11_game 63 = .ok (.aload_n 0, 1) := by decide +kernel
theorem dX11_game_64 : decode cX11_game 64 = .ok (.getfield 88, 3) := by decide +kernel
theorem dX11_game_67 : decode cX11_game 67 = .ok (.iconst 3, 1) := by decide +kernel
theorem dX11_game_68 : decode cX11_game 68 = .ok (.iload_n 2, 1) := by decide +kernel
theorem dX11_game_69 : decode cX11_game 69 = .ok (.imul, 1) := by decide +kernel
theorem dX11_game_70 : decode cX11_game 70 = .ok (.iload_n 3, 1) := by decide +kernel
theorem dX11_game_71 : decode cX11_game 71 = .ok (.iadd, 1) := by decide +kernel
theorem dX11_game_72 : decode cX11_game 72 = .ok (.iaload, 1) := by decide +kernel
theorem dX11_game_73 : decode cX11_game 73 = .ok (.ireturn, 1) := by decide +kernel
set_option maxRecDepth 20000 in
def kX11_game_0 (g : sk_G) (d ck sk : Nat) (Q : sk_P) : sk_K := o_aload 0 (o_getf 11 1 (o_iload 1 (o_invT (g, d, ck, sk, xX11_game, Q) 2 1 7 (fun Q => kX7_hasRow_0 g (d - 1) 0 0 Q) (o_ifeq (o_i (-1000000) (o_iret (g, d, ck, sk, xX11_game, Q))) (o_iload 2 (o_iflt (o_i (-1000000) (o_iret (g, d, ck, sk, xX11_game, Q))) (o_iload 2 (o_i (4) (o_icge (o_i (-1000000) (o_iret (g, d, ck, sk, xX11_game, Q))) (o_iload 3 (o_iflt (o_i (-1000000) (o_iret (g, d, ck, sk, xX11_game, Q))) (o_iload 3 (o_i (3) (o_icge (o_i (-1000000) (o_iret (g, d, ck, sk, xX11_game, Q))) (o_iload 4 (o_iflt (o_i (-1000000) (o_iret (g, d, ck, sk, xX11_game, Q))) (o_iload 4 (o_i (1) (o_icle (o_aload 0 (o_iload 1 (o_invB (g, d, ck, sk, xX11_game, Q) xX11_playOut 1 11 0 0 (o_iload 4 (o_ifne (o_aload 0 (o_getf 11 14 (o_i (3) (o_iload 2 (o_imul (o_iload 3 (o_iadd (o_iaload (o_iret (g, d, ck, sk, xX11_game, Q)))))))))) (o_aload 0 (o_getf 11 13 (o_iload 2 (o_iaload (o_iret (g, d, ck, sk, xX11_game, Q))))))))))) (o_i (-1000000) (o_iret (g, d, ck, sk, xX11_game, Q))))))))))))))))))))))
set_option maxRecDepth 20000 in
theorem tX11_game_0 {g : sk_G} {d ck sk : Nat} {Q : sk_P} : sk_S (g, d, ck, sk, xX11_game, Q) 0 (kX11_game_0 g d ck sk Q) := s_aload_n dX11_game_0 rfl (s_getf (ci := 11) (j := 1) (C := RX11) (T := TX11) (N := 17) dX11_game_1 rfl (by decide) (by decide) qf_X11_19 (s_iload_n dX11_game_4 rfl (s_invT (X := xX7_hasRow) (ci := 7) (T := TX7) (N := 4) (K := (fun Q => kX7_hasRow_0 g (d - 1) 0 0 Q)) (fun _ => tX7_hasRow_0) rfl dX11_game_5 m_X7_hasRow rfl (by decide) qm_X11_223 qi_X7_hasRow qe_X7_hasRow (s_ifeq (tgt := 40) dX11_game_8 (by decide) (s_ldcw dX11_game_40 qk_X11_368 rfl (s_iret dX11_game_43 rfl)) (s_iload_n dX11_game_11 rfl (s_iflt (tgt := 40) dX11_game_12 (by decide) (s_ldcw dX11_game_40 qk_X11_368 rfl (s_iret dX11_game_43 rfl)) (s_iload_n dX11_game_15 rfl (s_iconst dX11_game_16 (s_icge (tgt := 40) dX11_game_17 (by decide) (s_ldcw dX11_game_40 qk_X11_368 rfl (s_iret dX11_game_43 rfl)) (s_iload_n dX11_game_20 rfl (s_iflt (tgt := 40) dX11_game_21 (by decide) (s_ldcw dX11_game_40 qk_X11_368 rfl (s_iret dX11_game_43 rfl)) (s_iload_n dX11_game_24 rfl (s_iconst dX11_game_25 (s_icge (tgt := 40) dX11_game_26 (by decide) (s_ldcw dX11_game_40 qk_X11_368 rfl (s_iret dX11_game_43 rfl)) (s_iload dX11_game_29 (s_iflt (tgt := 40) dX11_game_31 (by decide) (s_ldcw dX11_game_40 qk_X11_368 rfl (s_iret dX11_game_43 rfl)) (s_iload dX11_game_34 (s_iconst dX11_game_36 (s_icle (tgt := 44) dX11_game_37 (by decide) (s_aload_n dX11_game_44 rfl (s_iload_n dX11_game_45 rfl (s_invB (w' := (g, d, ck, sk, xX11_game, Q)) (ci := 11) (ck := 0) (sk := 0) (T := TX11) (N := 17) dX11_game_46 m_X11_playOut rfl (by decide) qm_X11_369 qi_X11_playOut qe_X11_playOut rfl (s_iload dX11_game_49 (s_ifne (tgt := 63) dX11_game_51 (by decide) (s_aload_n dX11_game_63 rfl (s_getf (ci := 11) (j := 14) (C := RX11) (T := TX11) (N := 17) dX11_game_64 rfl (by decide) (by decide) qf_X11_88 (s_iconst dX11_game_67 (s_iload_n dX11_game_68 rfl (s_imul dX11_game_69 (s_iload_n dX11_game_70 rfl (s_iadd dX11_game_71 (s_iaload dX11_game_72 (s_iret dX11_game_73 rfl))))))))) (s_aload_n dX11_game_54 rfl (s_getf (ci := 11) (j := 13) (C := RX11) (T := TX11) (N := 17) dX11_game_55 rfl (by decide) (by decide) qf_X11_85 (s_iload_n dX11_game_58 rfl (s_iaload dX11_game_59 (s_goto (tgt := 73) dX11_game_60 (by decide) (s_iret dX11_game_73 rfl))))))))))) (s_ldcw dX11_game_40 qk_X11_368 rfl (s_iret dX11_game_43 rfl)))))))))))))))))))))
theorem dX11_playOut_0 : decode cX11_playOut 0 = .ok (.aload_n 0, 1) := by decide +kernel
theorem dX11_playOut_1 : decode cX11_playOut 1 = .ok (.aload_n 0, 1) := by decide +kernel
theorem dX11_playOut_2 : decode cX11_playOut 2 = .ok (.getfield 36, 3) := by decide +kernel
theorem dX11_playOut_5 : decode cX11_playOut 5 = .ok (.iload_n 1, 1) := by decide +kernel
theorem dX11_playOut_6 : decode cX11_playOut 6 = .ok (.invokevirtual 491, 3) := by decide +kernel
theorem dX11_playOut_9 : decode cX11_playOut 9 = .ok (.istore_n 2, 1) := by decide +kernel
theorem dX11_playOut_10 : decode cX11_playOut 10 = .ok (.iconst 0, 1) := by decide +kernel
theorem dX11_playOut_11 : decode cX11_playOut 11 = .ok (.istore_n 3, 1) := by decide +kernel
theorem dX11_playOut_12 : decode cX11_playOut 12 = .ok (.iload_n 3, 1) := by decide +kernel
theorem dX11_playOut_13 : decode cX11_playOut 13 = .ok (.iconst 4, 1) := by decide +kernel
theorem dX11_playOut_14 : decode cX11_playOut 14 = .ok (.if_icmp .ge 58, 3) := by decide +kernel
theorem dX11_playOut_17 : decode cX11_playOut 17 = .ok (.aload_n 0, 1) := by decide +kernel
theorem dX11_playOut_18 : decode cX11_playOut 18 = .ok (.getfield 40, 3) := by decide +kernel
theorem dX11_playOut_21 : decode cX11_playOut 21 = .ok (.aload_n 0, 1) := by decide +kernel
theorem dX11_playOut_22 : decode cX11_playOut 22 = .ok (.getfield 36, 3) := by decide +kernel
theorem dX11_playOut_25 : decode cX11_playOut 25 = .ok (.invokevirtual 333, 3) := by decide +kernel
theorem dX11_playOut_28 : decode cX11_playOut 28 = .ok (.aload_n 0, 1) := by decide +kernel
theorem dX11_playOut_29 : decode cX11_playOut 29 = .ok (.aload_n 0, 1) := by decide +kernel
theorem dX11_playOut_30 : decode cX11_playOut 30 = .ok (.getfield 40, 3) := by decide +kernel
theorem dX11_playOut_33 : decode cX11_playOut 33 = .ok (.iload_n 1, 1) := by decide +kernel
theorem dX11_playOut_34 : decode cX11_playOut 34 = .ok (.iload_n 3, 1) := by decide +kernel
theorem dX11_playOut_35 : decode cX11_playOut 35 = .ok (.invokevirtual 229, 3) := by decide +kernel
theorem dX11_playOut_38 : decode cX11_playOut 38 = .ok (.pop, 1) := by decide +kernel
theorem dX11_playOut_39 : decode cX11_playOut 39 = .ok (.aload_n 0, 1) := by decide +kernel
theorem dX11_playOut_40 : decode cX11_playOut 40 = .ok (.getfield 85, 3) := by decide +kernel
theorem dX11_playOut_43 : decode cX11_playOut 43 = .ok (.iload_n 3, 1) := by decide +kernel
theorem dX11_playOut_44 : decode cX11_playOut 44 = .ok (.iconst 2, 1) := by decide +kernel
theorem dX11_playOut_45 : decode cX11_playOut 45 = .ok (.iload_n 2, 1) := by decide +kernel
theorem dX11_playOut_46 : decode cX11_playOut 46 = .ok (.aload_n 0, 1) := by decide +kernel
theorem dX11_playOut_47 : decode cX11_playOut 47 = .ok (.aload_n 0, 1) := by decide +kernel
theorem dX11_playOut_48 : decode cX11_playOut 48 = .ok (.getfield 40, 3) := by decide +kernel
theorem dX11_playOut_51 : decode cX11_playOut 51 = .ok (.iload_n 1, 1) := by decide +kernel
theorem dX11_playOut_52 : decode cX11_playOut 52 = .ok (.invokevirtual 491, 3) := by decide +kernel
theorem dX11_playOut_55 : decode cX11_playOut 55 = .ok (.isub, 1) := by decide +kernel
theorem dX11_playOut_56 : decode cX11_playOut 56 = .ok (.imul, 1) := by decide +kernel
theorem dX11_playOut_57 : decode cX11_playOut 57 = .ok (.iload_n 3, 1) := by decide +kernel
theorem dX11_playOut_58 : decode cX11_playOut 58 = .ok (.isub, 1) := by decide +kernel
theorem dX11_playOut_59 : decode cX11_playOut 59 = .ok (.iastore, 1) := by decide +kernel
theorem dX11_playOut_60 : decode cX11_playOut 60 = .ok (.aload_n 0, 1) := by decide +kernel
theorem dX11_playOut_61 : decode cX11_playOut 61 = .ok (.iload_n 1, 1) := by decide +kernel
theorem dX11_playOut_62 : decode cX11_playOut 62 = .ok (.iload_n 3, 1) := by decide +kernel
theorem dX11_playOut_63 : decode cX11_playOut 63 = .ok (.invokevirtual 495, 3) := by decide +kernel
theorem dX11_playOut_66 : decode cX11_playOut 66 = .ok (.iinc 3 1, 3) := by decide +kernel
theorem dX11_playOut_69 : decode cX11_playOut 69 = .ok (.goto (-57), 3) := by decide +kernel
theorem dX11_playOut_72 : decode cX11_playOut 72 = .ok (.return_, 1) := by decide +kernel
def kX11_playOut_0 (g : sk_G) (d ck sk : Nat) (Q : sk_P) : sk_K := o_aload 0 (o_aload 0 (o_getf 11 4 (o_iload 1 (o_invB (g, d, ck, sk, xX11_playOut, Q) xX11_legibleInRow 2 11 0 0 (o_istore 2 (o_i (0) (o_istore 3 (sk_B (g, d, ck, sk, xX11_playOut, Q) 12))))))))
theorem tX11_playOut_0 {g : sk_G} {d ck sk : Nat} {Q : sk_P} : sk_S (g, d, ck, sk, xX11_playOut, Q) 0 (kX11_playOut_0 g d ck sk Q) := s_aload_n dX11_playOut_0 rfl (s_aload_n dX11_playOut_1 rfl (s_getf (ci := 11) (j := 4) (C := RX11) (T := TX11) (N := 17) dX11_playOut_2 rfl (by decide) (by decide) qf_X11_36 (s_iload_n dX11_playOut_5 rfl (s_invB (w' := (g, d, ck, sk, xX11_playOut, Q)) (ci := 11) (ck := 0) (sk := 0) (T := TX11) (N := 17) dX11_playOut_6 m_X11_legibleInRow rfl (by decide) qm_X11_491 qi_X11_legibleInRow qe_X11_legibleInRow rfl (s_istore_n dX11_playOut_9 rfl (by decide : 2 < 4) (s_iconst dX11_playOut_10 (s_istore_n dX11_playOut_11 rfl (by decide : 3 < 4) (sk_id))))))))
set_option maxRecDepth 20000 in
def kX11_playOut_12 (g : sk_G) (d ck sk : Nat) (Q : sk_P) : sk_K := o_iload 3 (o_i (4) (o_icge (o_ret (g, d, ck, sk, xX11_playOut, Q)) (o_aload 0 (o_getf 11 5 (o_aload 0 (o_getf 11 4 (o_invB (g, d, ck, sk, xX11_playOut, Q) xX5_copyFrom 1 5 0 0 (o_aload 0 (o_aload 0 (o_getf 11 5 (o_iload 1 (o_iload 3 (o_invB (g, d, ck, sk, xX11_playOut, Q) xX11_scrapeRow 3 11 0 0 (o_pop (o_aload 0 (o_getf 11 13 (o_iload 3 (o_i (2) (o_iload 2 (o_aload 0 (o_aload 0 (o_getf 11 5 (o_iload 1 (o_invB (g, d, ck, sk, xX11_playOut, Q) xX11_legibleInRow 2 11 0 0 (o_isub (o_imul (o_iload 3 (o_isub (o_iastore (o_aload 0 (o_iload 1 (o_iload 3 (o_invB (g, d, ck, sk, xX11_playOut, Q) xX11_readRow 2 11 0 0 (o_iinc 3 (1) (sk_B (g, d, ck, sk, xX11_playOut, Q) 12)))))))))))))))))))))))))))))))))))
set_option maxRecDepth 20000 in
theorem tX11_playOut_12 {g : sk_G} {d ck sk : Nat} {Q : sk_P} : sk_S (g, d, ck, sk, xX11_playOut, Q) 12 (kX11_playOut_12 g d ck sk Q) := s_iload_n dX11_playOut_12 rfl (s_iconst dX11_playOut_13 (s_icge (tgt := 72) dX11_playOut_14 (by decide) (s_ret dX11_playOut_72 rfl) (s_aload_n dX11_playOut_17 rfl (s_getf (ci := 11) (j := 5) (C := RX11) (T := TX11) (N := 17) dX11_playOut_18 rfl (by decide) (by decide) qf_X11_40 (s_aload_n dX11_playOut_21 rfl (s_getf (ci := 11) (j := 4) (C := RX11) (T := TX11) (N := 17) dX11_playOut_22 rfl (by decide) (by decide) qf_X11_36 (s_invB (w' := (g, d, ck, sk, xX11_playOut, Q)) (ci := 5) (ck := 0) (sk := 0) (T := TX5) (N := 6) dX11_playOut_25 m_X5_copyFrom rfl (by decide) qm_X11_333 qi_X5_copyFrom qe_X5_copyFrom rfl (s_aload_n dX11_playOut_28 rfl (s_aload_n dX11_playOut_29 rfl (s_getf (ci := 11) (j := 5) (C := RX11) (T := TX11) (N := 17) dX11_playOut_30 rfl (by decide) (by decide) qf_X11_40 (s_iload_n dX11_playOut_33 rfl (s_iload_n dX11_playOut_34 rfl (s_invB (w' := (g, d, ck, sk, xX11_playOut, Q)) (ci := 11) (ck := 0) (sk := 0) (T := TX11) (N := 17) dX11_playOut_35 m_X11_scrapeRow rfl (by decide) qm_X11_229 qi_X11_scrapeRow qe_X11_scrapeRow rfl (s_pop dX11_playOut_38 (s_aload_n dX11_playOut_39 rfl (s_getf (ci := 11) (j := 13) (C := RX11) (T := TX11) (N := 17) dX11_playOut_40 rfl (by decide) (by decide) qf_X11_85 (s_iload_n dX11_playOut_43 rfl (s_iconst dX11_playOut_44 (s_iload_n dX11_playOut_45 rfl (s_aload_n dX11_playOut_46 rfl (s_aload_n dX11_playOut_47 rfl (s_getf (ci := 11) (j := 5) (C := RX11) (T := TX11) (N := 17) dX11_playOut_48 rfl (by decide) (by decide) qf_X11_40 (s_iload_n dX11_playOut_51 rfl (s_invB (w' := (g, d, ck, sk, xX11_playOut, Q)) (ci := 11) (ck := 0) (sk := 0) (T := TX11) (N := 17) dX11_playOut_52 m_X11_legibleInRow rfl (by decide) qm_X11_491 qi_X11_legibleInRow qe_X11_legibleInRow rfl (s_isub dX11_playOut_55 (s_imul dX11_playOut_56 (s_iload_n dX11_playOut_57 rfl (s_isub dX11_playOut_58 (s_iastore dX11_playOut_59 (s_aload_n dX11_playOut_60 rfl (s_iload_n dX11_playOut_61 rfl (s_iload_n dX11_playOut_62 rfl (s_invB (w' := (g, d, ck, sk, xX11_playOut, Q)) (ci := 11) (ck := 0) (sk := 0) (T := TX11) (N := 17) dX11_playOut_63 m_X11_readRow rfl (by decide) qm_X11_495 qi_X11_readRow qe_X11_readRow rfl (s_iinc dX11_playOut_66 (by decide : 3 < 4) (s_goto (tgt := 12) dX11_playOut_69 (by decide) (sk_id))))))))))))))))))))))))))))))))))))
theorem dX11_legibleInRow_0 : decode cX11_legibleInRow 0 = .ok (.iconst 0, 1) := by decide +kernel
theorem dX11_legibleInRow_1 : decode cX11_legibleInRow 1 = .ok (.istore_n 3, 1) := by decide +kernel
theorem dX11_legibleInRow_2 : decode cX11_legibleInRow 2 = .ok (.aload_n 0, 1) := by decide +kernel
theorem dX11_legibleInRow_3 : decode cX11_legibleInRow 3 = .ok (.getfield 19, 3) := by decide +kernel
theorem dX11_legibleInRow_6 : decode cX11_legibleInRow 6 = .ok (.iload_n 2, 1) := by decide +kernel
theorem dX11_legibleInRow_7 : decode cX11_legibleInRow 7 = .ok (.invokevirtual 429, 3) := by decide +kernel
theorem dX11_legibleInRow_10 : decode cX11_legibleInRow 10 = .ok (.istore 4, 2) := by decide +kernel
theorem dX11_legibleInRow_12 : decode cX11_legibleInRow 12 = .ok (.iload 4, 2) := by decide +kernel
theorem dX11_legibleInRow_14 : decode cX11_legibleInRow 14 = .ok (.aload_n 0, 1) := by decide +kernel
theorem dX11_legibleInRow_15 : decode cX11_legibleInRow 15 = .ok (.getfield 19, 3) := by decide +kernel
theorem dX11_legibleInRow_18 : decode cX11_legibleInRow 18 = .ok (.iload_n 2, 1) := by decide +kernel
theorem dX11_legibleInRow_19 : decode cX11_legibleInRow 19 = .ok (.iconst 1, 1) := by decide +kernel
theorem dX11_legibleInRow_20 : decode cX11_legibleInRow 20 = .ok (.iadd, 1) := by decide +kernel
theorem dX11_legibleInRow_21 : decode cX11_legibleInRow 21 = .ok (.invokevirtual 429, 3) := by decide +kernel
theorem dX11_legibleInRow_24 : decode cX11_legibleInRow 24 = .ok (.if_icmp .ge 25, 3) := by decide +kernel
theorem dX11_legibleInRow_27 : decode cX11_legibleInRow 27 = .ok (.iload_n 3, 1) := by decide +kernel
theorem dX11_legibleInRow_28 : decode cX11_legibleInRow 28 = .ok (.aload_n 1, 1) := by decide +kernel
theorem dX11_legibleInRow_29 : decode cX11_legibleInRow 29 = .ok (.iload 4, 2) := by decide +kernel
theorem dX11_legibleInRow_31 : decode cX11_legibleInRow 31 = .ok (.aload_n 0, 1) := by decide +kernel
theorem dX11_legibleInRow_32 : decode cX11_legibleInRow 32 = .ok (.getfield 19, 3) := by decide +kernel
theorem dX11_legibleInRow_35 : decode cX11_legibleInRow 35 = .ok (.invokevirtual 262, 3) := by decide +kernel
theorem dX11_legibleInRow_38 : decode cX11_legibleInRow 38 = .ok (.invokevirtual 498, 3) := by decide +kernel
theorem dX11_legibleInRow_41 : decode cX11_legibleInRow 41 = .ok (.iadd, 1) := by decide +kernel
theorem dX11_legibleInRow_42 : decode cX11_legibleInRow 42 = .ok (.istore_n 3, 1) := by decide +kernel
theorem dX11_legibleInRow_43 : decode cX11_legibleInRow 43 = .ok (.iinc 4 1, 3) := by decide +kernel
theorem dX11_legibleInRow_46 : decode cX11_legibleInRow 46 = .ok (.goto (-34), 3) := by decide +kernel
theorem dX11_legibleInRow_49 : decode cX11_legibleInRow 49 = .ok (.iload_n 3, 1) := by decide +kernel
theorem dX11_legibleInRow_50 : decode cX11_legibleInRow 50 = .ok (.ireturn, 1) := by decide +kernel
set_option maxRecDepth 20000 in
def kX11_legibleInRow_0 (g : sk_G) (d ck sk : Nat) (Q : sk_P) : sk_K := o_i (0) (o_istore 3 (o_aload 0 (o_getf 11 1 (o_iload 2 (o_invT (g, d, ck, sk, xX11_legibleInRow, Q) 2 1 7 (fun Q => kX7_firstOf_0 g (d - 1) 0 0 Q) (o_istore 4 (sk_B (g, d, ck, sk, xX11_legibleInRow, Q) 12)))))))
set_option maxRecDepth 20000 in
theorem tX11_legibleInRow_0 {g : sk_G} {d ck sk : Nat} {Q : sk_P} : sk_S (g, d, ck, sk, xX11_legibleInRow, Q) 0 (kX11_legibleInRow_0 g d ck sk Q) := s_iconst dX11_legibleInRow_0 (s_istore_n dX11_legibleInRow_1 rfl (by decide : 3 < 5) (s_aload_n dX11_legibleInRow_2 rfl (s_getf (ci := 11) (j := 1) (C := RX11) (T := TX11) (N := 17) dX11_legibleInRow_3 rfl (by decide) (by decide) qf_X11_19 (s_iload_n dX11_legibleInRow_6 rfl (s_invT (X := xX7_firstOf) (ci := 7) (T := TX7) (N := 4) (K := (fun Q => kX7_firstOf_0 g (d - 1) 0 0 Q)) (fun _ => tX7_firstOf_0) rfl dX11_legibleInRow_7 m_X7_firstOf rfl (by decide) qm_X11_429 qi_X7_firstOf qe_X7_firstOf (s_istore dX11_legibleInRow_10 (by decide : 4 < 5) (sk_id)))))))
set_option maxRecDepth 20000 in
def kX11_legibleInRow_12 (g : sk_G) (d ck sk : Nat) (Q : sk_P) : sk_K := o_iload 4 (o_aload 0 (o_getf 11 1 (o_iload 2 (o_i (1) (o_iadd (o_invT (g, d, ck, sk, xX11_legibleInRow, Q) 2 1 7 (fun Q => kX7_firstOf_0 g (d - 1) 0 0 Q) (o_icge (o_iload 3 (o_iret (g, d, ck, sk, xX11_legibleInRow, Q))) (o_iload 3 (o_aload 1 (o_iload 4 (o_aload 0 (o_getf 11 1 (o_invT (g, d, ck, sk, xX11_legibleInRow, Q) 1 0 7 (fun Q => kX7_legible_0 g (d - 1) 0 0 Q) (o_invB (g, d, ck, sk, xX11_legibleInRow, Q) xX5_legibleIn 2 5 0 0 (o_iadd (o_istore 3 (o_iinc 4 (1) (sk_B (g, d, ck, sk, xX11_legibleInRow, Q) 12))))))))))))))))))
set_option maxRecDepth 20000 in
theorem tX11_legibleInRow_12 {g : sk_G} {d ck sk : Nat} {Q : sk_P} : sk_S (g, d, ck, sk, xX11_legibleInRow, Q) 12 (kX11_legibleInRow_12 g d ck sk Q) := s_iload dX11_legibleInRow_12 (s_aload_n dX11_legibleInRow_14 rfl (s_getf (ci := 11) (j := 1) (C := RX11) (T := TX11) (N := 17) dX11_legibleInRow_15 rfl (by decide) (by decide) qf_X11_19 (s_iload_n dX11_legibleInRow_18 rfl (s_iconst dX11_legibleInRow_19 (s_iadd dX11_legibleInRow_20 (s_invT (X := xX7_firstOf) (ci := 7) (T := TX7) (N := 4) (K := (fun Q => kX7_firstOf_0 g (d - 1) 0 0 Q)) (fun _ => tX7_firstOf_0) rfl dX11_legibleInRow_21 m_X7_firstOf rfl (by decide) qm_X11_429 qi_X7_firstOf qe_X7_firstOf (s_icge (tgt := 49) dX11_legibleInRow_24 (by decide) (s_iload_n dX11_legibleInRow_49 rfl (s_iret dX11_legibleInRow_50 rfl)) (s_iload_n dX11_legibleInRow_27 rfl (s_aload_n dX11_legibleInRow_28 rfl (s_iload dX11_legibleInRow_29 (s_aload_n dX11_legibleInRow_31 rfl (s_getf (ci := 11) (j := 1) (C := RX11) (T := TX11) (N := 17) dX11_legibleInRow_32 rfl (by decide) (by decide) qf_X11_19 (s_invT (X := xX7_legible) (ci := 7) (T := TX7) (N := 4) (K := (fun Q => kX7_legible_0 g (d - 1) 0 0 Q)) (fun _ => tX7_legible_0) rfl dX11_legibleInRow_35 m_X7_legible rfl (by decide) qm_X11_262 qi_X7_legible qe_X7_legible (s_invB (w' := (g, d, ck, sk, xX11_legibleInRow, Q)) (ci := 5) (ck := 0) (sk := 0) (T := TX5) (N := 6) dX11_legibleInRow_38 m_X5_legibleIn rfl (by decide) qm_X11_498 qi_X5_legibleIn qe_X5_legibleIn rfl (s_iadd dX11_legibleInRow_41 (s_istore_n dX11_legibleInRow_42 rfl (by decide : 3 < 5) (s_iinc dX11_legibleInRow_43 (by decide : 4 < 5) (s_goto (tgt := 12) dX11_legibleInRow_46 (by decide) (sk_id)))))))))))))))))))
theorem dX11_readRow_0 : decode cX11_readRow 0 = .ok (.iconst 0, 1) := by decide +kernel
theorem dX11_readRow_1 : decode cX11_readRow 1 = .ok (.istore_n 3, 1) := by decide +kernel
theorem dX11_readRow_2 : decode cX11_readRow 2 = .ok (.iconst 0, 1) := by decide +kernel
theorem dX11_readRow_3 : decode cX11_readRow 3 = .ok (.istore 4, 2) := by decide +kernel
theorem dX11_readRow_5 : decode cX11_readRow 5 = .ok (.iconst 0, 1) := by decide +kernel
theorem dX11_readRow_6 : decode cX11_readRow 6 = .ok (.istore 5, 2) := by decide +kernel
theorem dX11_readRow_8 : decode cX11_readRow 8 = .ok (.aload_n 0, 1) := by decide +kernel
theorem dX11_readRow_9 : decode cX11_readRow 9 = .ok (.getfield 19, 3) := by decide +kernel
theorem dX11_readRow_12 : decode cX11_readRow 12 = .ok (.iload_n 1, 1) := by decide +kernel
theorem dX11_readRow_13 : decode cX11_readRow 13 = .ok (.invokevirtual 429, 3) := by decide +kernel
theorem dX11_readRow_16 : decode cX11_readRow 16 = .ok (.istore 6, 2) := by decide +kernel
theorem dX11_readRow_18 : decode cX11_readRow 18 = .ok (.iload 6, 2) := by decide +kernel
theorem dX11_readRow_20 : decode cX11_readRow 20 = .ok (.aload_n 0, 1) := by decide +kernel
theorem dX11_readRow_21 : decode cX11_readRow 21 = .ok (.getfield 19, 3) := by decide +kernel
theorem dX11_readRow_24 : decode cX11_readRow 24 = .ok (.iload_n 1, 1) := by decide +kernel
theorem dX11_readRow_25 : decode cX11_readRow 25 = .ok (.iconst 1, 1) := by decide +kernel
theorem dX11_readRow_26 : decode cX11_readRow 26 = .ok (.iadd, 1) := by decide +kernel
theorem dX11_readRow_27 : decode cX11_readRow 27 = .ok (.invokevirtual 429, 3) := by decide +kernel
theorem dX11_readRow_30 : decode cX11_readRow 30 = .ok (.if_icmp .ge 98, 3) := by decide +kernel
theorem dX11_readRow_33 : decode cX11_readRow 33 = .ok (.iload_n 3, 1) := by decide +kernel
theorem dX11_readRow_34 : decode cX11_readRow 34 = .ok (.aload_n 0, 1) := by decide +kernel
theorem dX11_readRow_35 : decode cX11_readRow 35 = .ok (.getfield 40, 3) := by decide +kernel
theorem dX11_readRow_38 : decode cX11_readRow 38 = .ok (.iload 6, 2) := by decide +kernel
theorem dX11_readRow_40 : decode cX11_readRow 40 = .ok (.aload_n 0, 1) := by decide +kernel
theorem dX11_readRow_41 : decode cX11_readRow 41 = .ok (.getfield 19, 3) := by decide +kernel
theorem dX11_readRow_44 : decode cX11_readRow 44 = .ok (.invokevirtual 262, 3) := by decide +kernel
theorem dX11_readRow_47 : decode cX11_readRow 47 = .ok (.invokevirtual 265, 3) := by decide +kernel
theorem dX11_readRow_50 : decode cX11_readRow 50 = .ok (.bipush 26, 2) := by decide +kernel
theorem dX11_readRow_52 : decode cX11_readRow 52 = .ok (.if_icmp .eq 7, 3) := by decide +kernel
theorem dX11_readRow_55 : decode cX11_readRow 55 = .ok (.iconst 1, 1) := by decide +kernel
theorem dX11_readRow_56 : decode cX11_readRow 56 = .ok (.goto 4, 3) := by decide +kernel
theorem dX11_readRow_59 : decode cX11_readRow 59 = .ok (.iconst 0, 1) := by decide +kernel
theorem dX11_readRow_60 : decode cX11_readRow 60 = .ok (.iadd, 1) := by decide +kernel
theorem dX11_readRow_61 : decode cX11_readRow 61 = .ok (.istore_n 3, 1) := by decide +kernel
theorem dX11_readRow_62 : decode cX11_readRow 62 = .ok (.iload 4, 2) := by decide +kernel
theorem dX11_readRow_64 : decode cX11_readRow 64 = .ok (.aload_n 0, 1) := by decide +kernel
theorem dX11_readRow_65 : decode cX11_readRow 65 = .ok (.getfield 40, 3) := by decide +kernel
theorem dX11_readRow_68 : decode cX11_readRow 68 = .ok (.iload 6, 2) := by decide +kernel
theorem dX11_readRow_70 : decode cX11_readRow 70 = .ok (.aload_n 0, 1) := by decide +kernel
theorem dX11_readRow_71 : decode cX11_readRow 71 = .ok (.getfield 19, 3) := by decide +kernel
theorem dX11_readRow_74 : decode cX11_readRow 74 = .ok (.invokevirtual 262, 3) := by decide +kernel
theorem dX11_readRow_77 : decode cX11_readRow 77 = .ok (.invokevirtual 268, 3) := by decide +kernel
theorem dX11_readRow_80 : decode cX11_readRow 80 = .ok (.bipush 26, 2) := by decide +kernel
theorem dX11_readRow_82 : decode cX11_readRow 82 = .ok (.if_icmp .eq 7, 3) := by decide +kernel
theorem dX11_readRow_85 : decode cX11_readRow 85 = .ok (.iconst 1, 1) := by decide +kernel
theorem dX11_readRow_86 : decode cX11_readRow 86 = .ok (.goto 4, 3) := by decide +kernel
theorem dX11_readRow_89 : decode cX11_readRow 89 = .ok (.iconst 0, 1) := by decide +kernel
theorem dX11_readRow_90 : decode cX11_readRow 90 = .ok (.iadd, 1) := by decide +kernel
theorem dX11_readRow_91 : decode cX11_readRow 91 = .ok (.istore 4, 2) := by decide +kernel
theorem dX11_readRow_93 : decode cX11_readRow 93 = .ok (.iload 5, 2) := by decide +kernel
theorem dX11_readRow_95 : decode cX11_readRow 95 = .ok (.aload_n 0, 1) := by decide +kernel
theorem dX11_readRow_96 : decode cX11_readRow 96 = .ok (.getfield 40, 3) := by decide +kernel
theorem dX11_readRow_99 : decode cX11_readRow 99 = .ok (.iload 6, 2) := by decide +kernel
theorem dX11_readRow_101 : decode cX11_readRow 101 = .ok (.aload_n 0, 1) := by decide +kernel
theorem dX11_readRow_102 : decode cX11_readRow 102 = .ok (.getfield 19, 3) := by decide +kernel
theorem dX11_readRow_105 : decode cX11_readRow 105 = .ok (.invokevirtual 262, 3) := by decide +kernel
theorem dX11_readRow_108 : decode cX11_readRow 108 = .ok (.invokevirtual 501, 3) := by decide +kernel
theorem dX11_readRow_111 : decode cX11_readRow 111 = .ok (.ifCond .eq 7, 3) := by decide +kernel
theorem dX11_readRow_114 : decode cX11_readRow 114 = .ok (.iconst 1, 1) := by decide +kernel
theorem dX11_readRow_115 : decode cX11_readRow 115 = .ok (.goto 4, 3) := by decide +kernel
theorem dX11_readRow_118 : decode cX11_readRow 118 = .ok (.iconst 0, 1) := by decide +kernel
theorem dX11_readRow_119 : decode cX11_readRow 119 = .ok (.iadd, 1) := by decide +kernel
theorem dX11_readRow_120 : decode cX11_readRow 120 = .ok (.istore 5, 2) := by decide +kernel
theorem dX11_readRow_122 : decode cX11_readRow 122 = .ok (.iinc 6 1, 3) := by decide +kernel
theorem dX11_readRow_125 : decode cX11_readRow 125 = .ok (.goto (-107), 3) := by decide +kernel
theorem dX11_readRow_128 : decode cX11_readRow 128 = .ok (.aload_n 0, 1) := by decide +kernel
theorem dX11_readRow_129 : decode cX11_readRow 129 = .ok (.getfield 88, 3) := by decide +kernel
theorem dX11_readRow_132 : decode cX11_readRow 132 = .ok (.iconst 3, 1) := by decide +kernel
theorem dX11_readRow_133 : decode cX11_readRow 133 = .ok (.iload_n 2, 1) := by decide +kernel
theorem dX11_readRow_134 : decode cX11_readRow 134 = .ok (.imul, 1) := by decide +kernel
theorem dX11_readRow_135 : decode cX11_readRow 135 = .ok (.iload_n 3, 1) := by decide +kernel
theorem dX11_readRow_136 : decode cX11_readRow 136 = .ok (.iastore, 1) := by decide +kernel
theorem dX11_readRow_137 : decode cX11_readRow 137 = .ok (.aload_n 0, 1) := by decide +kernel
theorem dX11_readRow_138 : decode cX11_readRow 138 = .ok (.getfield 88, 3) := by decide +kernel
theorem dX11_readRow_141 : decode cX11_readRow 141 = .ok (.iconst 3, 1) := by decide +kernel
theorem dX11_readRow_142 : decode cX11_readRow 142 = .ok (.iload_n 2, 1) := by decide +kernel
theorem dX11_readRow_143 : decode cX11_readRow 143 = .ok (.imul, 1) := by decide +kernel
theorem dX11_readRow_144 : decode cX11_readRow 144 = .ok (.iconst 1, 1) := by decide +kernel
theorem dX11_readRow_145 : decode cX11_readRow 145 = .ok (.iadd, 1) := by decide +kernel
theorem dX11_readRow_146 : decode cX11_readRow 146 = .ok (.iload 4, 2) := by decide +kernel
theorem dX11_readRow_148 : decode cX11_readRow 148 = .ok (.iconst 1, 1) := by decide +kernel
theorem dX11_readRow_149 : decode cX11_readRow 149 = .ok (.isub, 1) := by decide +kernel
theorem dX11_readRow_150 : decode cX11_readRow 150 = .ok (.iastore, 1) := by decide +kernel
theorem dX11_readRow_151 : decode cX11_readRow 151 = .ok (.aload_n 0, 1) := by decide +kernel
theorem dX11_readRow_152 : decode cX11_readRow 152 = .ok (.getfield 88, 3) := by decide +kernel
theorem dX11_readRow_155 : decode cX11_readRow 155 = .ok (.iconst 3, 1) := by decide +kernel
theorem dX11_readRow_156 : decode cX11_readRow 156 = .ok (.iload_n 2, 1) := by decide +kernel
theorem dX11_readRow_157 : decode cX11_readRow 157 = .ok (.imul, 1) := by decide +kernel
theorem dX11_readRow_158 : decode cX11_readRow 158 = .ok (.iconst 2, 1) := by decide +kernel
theorem dX11_readRow_159 : decode cX11_readRow 159 = .ok (.iadd, 1) := by decide +kernel
theorem dX11_readRow_160 : decode cX11_readRow 160 = .ok (.iconst 3, 1) := by decide +kernel
theorem dX11_readRow_161 : decode cX11_readRow 161 = .ok (.iload 5, 2) := by decide +kernel
theorem dX11_readRow_163 : decode cX11_readRow 163 = .ok (.imul, 1) := by decide +kernel
theorem dX11_readRow_164 : decode cX11_readRow 164 = .ok (.iconst 2, 1) := by decide +kernel
theorem dX11_readRow_165 : decode cX11_readRow 165 = .ok (.isub, 1) := by decide +kernel
theorem dX11_readRow_166 : decode cX11_readRow 166 = .ok (.iastore, 1) := by decide +kernel
theorem dX11_readRow_167 : decode cX11_readRow 167 = .ok (.return_, 1) := by decide +kernel
set_option maxRecDepth 20000 in
def kX11_readRow_0 (g : sk_G) (d ck sk : Nat) (Q : sk_P) : sk_K := o_i (0) (o_istore 3 (o_i (0) (o_istore 4 (o_i (0) (o_istore 5 (o_aload 0 (o_getf 11 1 (o_iload 1 (o_invT (g, d, ck, sk, xX11_readRow, Q) 2 1 7 (fun Q => kX7_firstOf_0 g (d - 1) 0 0 Q) (o_istore 6 (sk_B (g, d, ck, sk, xX11_readRow, Q) 18)))))))))))
set_option maxRecDepth 20000 in
theorem tX11_readRow_0 {g : sk_G} {d ck sk : Nat} {Q : sk_P} : sk_S (g, d, ck, sk, xX11_readRow, Q) 0 (kX11_readRow_0 g d ck sk Q) := s_iconst dX11_readRow_0 (s_istore_n dX11_readRow_1 rfl (by decide : 3 < 7) (s_iconst dX11_readRow_2 (s_istore dX11_readRow_3 (by decide : 4 < 7) (s_iconst dX11_readRow_5 (s_istore dX11_readRow_6 (by decide : 5 < 7) (s_aload_n dX11_readRow_8 rfl (s_getf (ci := 11) (j := 1) (C := RX11) (T := TX11) (N := 17) dX11_readRow_9 rfl (by decide) (by decide) qf_X11_19 (s_iload_n dX11_readRow_12 rfl (s_invT (X := xX7_firstOf) (ci := 7) (T := TX7) (N := 4) (K := (fun Q => kX7_firstOf_0 g (d - 1) 0 0 Q)) (fun _ => tX7_firstOf_0) rfl dX11_readRow_13 m_X7_firstOf rfl (by decide) qm_X11_429 qi_X7_firstOf qe_X7_firstOf (s_istore dX11_readRow_16 (by decide : 6 < 7) (sk_id)))))))))))
set_option maxRecDepth 20000 in
def kX11_readRow_18 (g : sk_G) (d ck sk : Nat) (Q : sk_P) : sk_K := o_iload 6 (o_aload 0 (o_getf 11 1 (o_iload 1 (o_i (1) (o_iadd (o_invT (g, d, ck, sk, xX11_readRow, Q) 2 1 7 (fun Q => kX7_firstOf_0 g (d - 1) 0 0 Q) (o_icge (o_aload 0 (o_getf 11 14 (o_i (3) (o_iload 2 (o_imul (o_iload 3 (o_iastore (o_aload 0 (o_getf 11 14 (o_i (3) (o_iload 2 (o_imul (o_i (1) (o_iadd (o_iload 4 (o_i (1) (o_isub (o_iastore (o_aload 0 (o_getf 11 14 (o_i (3) (o_iload 2 (o_imul (o_i (2) (o_iadd (o_i (3) (o_iload 5 (o_imul (o_i (2) (o_isub (o_iastore (o_ret (g, d, ck, sk, xX11_readRow, Q))))))))))))))))))))))))))))))))) (o_iload 3 (o_aload 0 (o_getf 11 5 (o_iload 6 (o_aload 0 (o_getf 11 1 (o_invT (g, d, ck, sk, xX11_readRow, Q) 1 0 7 (fun Q => kX7_legible_0 g (d - 1) 0 0 Q) (o_invB (g, d, ck, sk, xX11_readRow, Q) xX5_shown 2 5 0 0 (o_i (26) (o_iceq (o_i (0) (sk_B (g, d, ck, sk, xX11_readRow, Q) 60)) (o_i (1) (sk_B (g, d, ck, sk, xX11_readRow, Q) 60)))))))))))))))))))
set_option maxRecDepth 20000 in
theorem tX11_readRow_18 {g : sk_G} {d ck sk : Nat} {Q : sk_P} : sk_S (g, d, ck, sk, xX11_readRow, Q) 18 (kX11_readRow_18 g d ck sk Q) := s_iload dX11_readRow_18 (s_aload_n dX11_readRow_20 rfl (s_getf (ci := 11) (j := 1) (C := RX11) (T := TX11) (N := 17) dX11_readRow_21 rfl (by decide) (by decide) qf_X11_19 (s_iload_n dX11_readRow_24 rfl (s_iconst dX11_readRow_25 (s_iadd dX11_readRow_26 (s_invT (X := xX7_firstOf) (ci := 7) (T := TX7) (N := 4) (K := (fun Q => kX7_firstOf_0 g (d - 1) 0 0 Q)) (fun _ => tX7_firstOf_0) rfl dX11_readRow_27 m_X7_firstOf rfl (by decide) qm_X11_429 qi_X7_firstOf qe_X7_firstOf (s_icge (tgt := 128) dX11_readRow_30 (by decide) (s_aload_n dX11_readRow_128 rfl (s_getf (ci := 11) (j := 14) (C := RX11) (T := TX11) (N := 17) dX11_readRow_129 rfl (by decide) (by decide) qf_X11_88 (s_iconst dX11_readRow_132 (s_iload_n dX11_readRow_133 rfl (s_imul dX11_readRow_134 (s_iload_n dX11_readRow_135 rfl (s_iastore dX11_readRow_136 (s_aload_n dX11_readRow_137 rfl (s_getf (ci := 11) (j := 14) (C := RX11) (T := TX11) (N := 17) dX11_readRow_138 rfl (by decide) (by decide) qf_X11_88 (s_iconst dX11_readRow_141 (s_iload_n dX11_readRow_142 rfl (s_imul dX11_readRow_143 (s_iconst dX11_readRow_144 (s_iadd dX11_readRow_145 (s_iload dX11_readRow_146 (s_iconst dX11_readRow_148 (s_isub dX11_readRow_149 (s_iastore dX11_readRow_150 (s_aload_n dX11_readRow_151 rfl (s_getf (ci := 11) (j := 14) (C := RX11) (T := TX11) (N := 17) dX11_readRow_152 rfl (by decide) (by decide) qf_X11_88 (s_iconst dX11_readRow_155 (s_iload_n dX11_readRow_156 rfl (s_imul dX11_readRow_157 (s_iconst dX11_readRow_158 (s_iadd dX11_readRow_159 (s_iconst dX11_readRow_160 (s_iload dX11_readRow_161 (s_imul dX11_readRow_163 (s_iconst dX11_readRow_164 (s_isub dX11_readRow_165 (s_iastore dX11_readRow_166 (s_ret dX11_readRow_167 rfl)))))))))))))))))))))))))))))))) (s_iload_n dX11_readRow_33 rfl (s_aload_n dX11_readRow_34 rfl (s_getf (ci := 11) (j := 5) (C := RX11) (T := TX11) (N := 17) dX11_readRow_35 rfl (by decide) (by decide) qf_X11_40 (s_iload dX11_readRow_38 (s_aload_n dX11_readRow_40 rfl (s_getf (ci := 11) (j := 1) (C := RX11) (T := TX11) (N := 17) dX11_readRow_41 rfl (by decide) (by decide) qf_X11_19 (s_invT (X := xX7_legible) (ci := 7) (T := TX7) (N := 4) (K := (fun Q => kX7_legible_0 g (d - 1) 0 0 Q)) (fun _ => tX7_legible_0) rfl dX11_readRow_44 m_X7_legible rfl (by decide) qm_X11_262 qi_X7_legible qe_X7_legible (s_invB (w' := (g, d, ck, sk, xX11_readRow, Q)) (ci := 5) (ck := 0) (sk := 0) (T := TX5) (N := 6) dX11_readRow_47 m_X5_shown rfl (by decide) qm_X11_265 qi_X5_shown qe_X5_shown rfl (s_bipush dX11_readRow_50 rfl (s_iceq (tgt := 59) dX11_readRow_52 (by decide) (s_iconst dX11_readRow_59 (sk_id)) (s_iconst dX11_readRow_55 (s_goto (tgt := 60) dX11_readRow_56 (by decide) (sk_id))))))))))))))))))))
set_option maxRecDepth 20000 in
def kX11_readRow_60 (g : sk_G) (d ck sk : Nat) (Q : sk_P) : sk_K := o_iadd (o_istore 3 (o_iload 4 (o_aload 0 (o_getf 11 5 (o_iload 6 (o_aload 0 (o_getf 11 1 (o_invT (g, d, ck, sk, xX11_readRow, Q) 1 0 7 (fun Q => kX7_legible_0 g (d - 1) 0 0 Q) (o_invB (g, d, ck, sk, xX11_readRow, Q) xX5_lit 2 5 0 0 (o_i (26) (o_iceq (o_i (0) (sk_B (g, d, ck, sk, xX11_readRow, Q) 90)) (o_i (1) (sk_B (g, d, ck, sk, xX11_readRow, Q) 90)))))))))))))
set_option maxRecDepth 20000 in
theorem tX11_readRow_60 {g : sk_G} {d ck sk : Nat} {Q : sk_P} : sk_S (g, d, ck, sk, xX11_readRow, Q) 60 (kX11_readRow_60 g d ck sk Q) := s_iadd dX11_readRow_60 (s_istore_n dX11_readRow_61 rfl (by decide : 3 < 7) (s_iload dX11_readRow_62 (s_aload_n dX11_readRow_64 rfl (s_getf (ci := 11) (j := 5) (C := RX11) (T := TX11) (N := 17) dX11_readRow_65 rfl (by decide) (by decide) qf_X11_40 (s_iload dX11_readRow_68 (s_aload_n dX11_readRow_70 rfl (s_getf (ci := 11) (j := 1) (C := RX11) (T := TX11) (N := 17) dX11_readRow_71 rfl (by decide) (by decide) qf_X11_19 (s_invT (X := xX7_legible) (ci := 7) (T := TX7) (N := 4) (K := (fun Q => kX7_legible_0 g (d - 1) 0 0 Q)) (fun _ => tX7_legible_0) rfl dX11_readRow_74 m_X7_legible rfl (by decide) qm_X11_262 qi_X7_legible qe_X7_legible (s_invB (w' := (g, d, ck, sk, xX11_readRow, Q)) (ci := 5) (ck := 0) (sk := 0) (T := TX5) (N := 6) dX11_readRow_77 m_X5_lit rfl (by decide) qm_X11_268 qi_X5_lit qe_X5_lit rfl (s_bipush dX11_readRow_80 rfl (s_iceq (tgt := 89) dX11_readRow_82 (by decide) (s_iconst dX11_readRow_89 (sk_id)) (s_iconst dX11_readRow_85 (s_goto (tgt := 90) dX11_readRow_86 (by decide) (sk_id))))))))))))))
set_option maxRecDepth 20000 in
def kX11_readRow_90 (g : sk_G) (d ck sk : Nat) (Q : sk_P) : sk_K := o_iadd (o_istore 4 (o_iload 5 (o_aload 0 (o_getf 11 5 (o_iload 6 (o_aload 0 (o_getf 11 1 (o_invT (g, d, ck, sk, xX11_readRow, Q) 1 0 7 (fun Q => kX7_legible_0 g (d - 1) 0 0 Q) (o_invB (g, d, ck, sk, xX11_readRow, Q) xX5_hasBeneath 2 5 0 0 (o_ifeq (o_i (0) (o_iadd (o_istore 5 (o_iinc 6 (1) (sk_B (g, d, ck, sk, xX11_readRow, Q) 18))))) (o_i (1) (o_iadd (o_istore 5 (o_iinc 6 (1) (sk_B (g, d, ck, sk, xX11_readRow, Q) 18)))))))))))))))
set_option maxRecDepth 20000 in
theorem tX11_readRow_90 {g : sk_G} {d ck sk : Nat} {Q : sk_P} : sk_S (g, d, ck, sk, xX11_readRow, Q) 90 (kX11_readRow_90 g d ck sk Q) := s_iadd dX11_readRow_90 (s_istore dX11_readRow_91 (by decide : 4 < 7) (s_iload dX11_readRow_93 (s_aload_n dX11_readRow_95 rfl (s_getf (ci := 11) (j := 5) (C := RX11) (T := TX11) (N := 17) dX11_readRow_96 rfl (by decide) (by decide) qf_X11_40 (s_iload dX11_readRow_99 (s_aload_n dX11_readRow_101 rfl (s_getf (ci := 11) (j := 1) (C := RX11) (T := TX11) (N := 17) dX11_readRow_102 rfl (by decide) (by decide) qf_X11_19 (s_invT (X := xX7_legible) (ci := 7) (T := TX7) (N := 4) (K := (fun Q => kX7_legible_0 g (d - 1) 0 0 Q)) (fun _ => tX7_legible_0) rfl dX11_readRow_105 m_X7_legible rfl (by decide) qm_X11_262 qi_X7_legible qe_X7_legible (s_invB (w' := (g, d, ck, sk, xX11_readRow, Q)) (ci := 5) (ck := 0) (sk := 0) (T := TX5) (N := 6) dX11_readRow_108 m_X5_hasBeneath rfl (by decide) qm_X11_501 qi_X5_hasBeneath qe_X5_hasBeneath rfl (s_ifeq (tgt := 118) dX11_readRow_111 (by decide) (s_iconst dX11_readRow_118 (s_iadd dX11_readRow_119 (s_istore dX11_readRow_120 (by decide : 5 < 7) (s_iinc dX11_readRow_122 (by decide : 6 < 7) (s_goto (tgt := 18) dX11_readRow_125 (by decide) (sk_id)))))) (s_iconst dX11_readRow_114 (s_goto (tgt := 119) dX11_readRow_115 (by decide) (s_iadd dX11_readRow_119 (s_istore dX11_readRow_120 (by decide : 5 < 7) (s_iinc dX11_readRow_122 (by decide : 6 < 7) (s_goto (tgt := 18) dX11_readRow_125 (by decide) (sk_id)))))))))))))))))
theorem dX11_rests_0 : decode cX11_rests 0 = .ok (.aload_n 0, 1) := by decide +kernel
theorem dX11_rests_1 : decode cX11_rests 1 = .ok (.getfield 19, 3) := by decide +kernel
theorem dX11_rests_4 : decode cX11_rests 4 = .ok (.iload_n 1, 1) := by decide +kernel
theorem dX11_rests_5 : decode cX11_rests 5 = .ok (.invokevirtual 223, 3) := by decide +kernel
theorem dX11_rests_8 : decode cX11_rests 8 = .ok (.ifCond .eq 8, 3) := by decide +kernel
theorem dX11_rests_11 : decode cX11_rests 11 = .ok (.iload_n 2, 1) := by decide +kernel
theorem dX11_rests_12 : decode cX11_rests 12 = .ok (.iconst (-1), 1) := by decide +kernel
theorem dX11_rests_13 : decode cX11_rests 13 = .ok (.if_icmp .ge 5, 3) := by decide +kernel
theorem dX11_rests_16 : decode cX11_rests 16 = .ok (.iconst (-1), 1) := by decide +kernel
theorem dX11_rests_17 : decode cX11_rests 17 = .ok (.ireturn, 1) := by decide +kernel
theorem dX11_rests_18 : decode cX11_rests 18 = .ok (.aload_n 0, 1) := by decide +kernel
theorem dX11_rests_19 : decode cX11_rests 19 = .ok (.iload_n 1, 1) := by decide +kernel
theorem dX11_rests_20 : decode cX11_rests 20 = .ok (.invokevirtual 369, 3) := by decide +kernel
theorem dX11_rests_23 : decode cX11_rests 23 = .ok (.iconst 0, 1) := by decide +kernel
theorem dX11_rests_24 : decode cX11_rests 24 = .ok (.istore_n 3, 1) := by decide +kernel
theorem dX11_rests_25 : decode cX11_rests 25 = .ok (.iconst 0, 1) := by decide +kernel
theorem dX11_rests_26 : decode cX11_rests 26 = .ok (.istore 4, 2) := by decide +kernel
theorem dX11_rests_28 : decode cX11_rests 28 = .ok (.iload 4, 2) := by decide +kernel
theorem dX11_rests_30 : decode cX11_rests 30 = .ok (.iconst 4, 1) := by decide +kernel
theorem dX11_rests_31 : decode cX11_rests 31 = .ok (.if_icmp .ge 52, 3) := by decide +kernel
theorem dX11_rests_34 : decode cX11_rests 34 = .ok (.iconst 0, 1) := by decide +kernel
theorem dX11_rests_35 : decode cX11_rests 35 = .ok (.istore 5, 2) := by decide +kernel
theorem dX11_rests_37 : decode cX11_rests 37 = .ok (.iload 5, 2) := by decide +kernel
theorem dX11_rests_39 : decode cX11_rests 39 = .ok (.iconst 3, 1) := by decide +kernel
theorem dX11_rests_40 : decode cX11_rests 40 = .ok (.if_icmp .ge 37, 3) := by decide +kernel
theorem dX11_rests_43 : decode cX11_rests 43 = .ok (.aload_n 0, 1) := by decide +kernel
theorem dX11_rests_44 : decode cX11_rests 44 = .ok (.iload 4, 2) := by decide +kernel
theorem dX11_rests_46 : decode cX11_rests 46 = .ok (.iload 5, 2) := by decide +kernel
theorem dX11_rests_48 : decode cX11_rests 48 = .ok (.invokevirtual 373, 3) := by decide +kernel
theorem dX11_rests_51 : decode cX11_rests 51 = .ok (.ifCond .eq 20, 3) := by decide +kernel
theorem dX11_rests_54 : decode cX11_rests 54 = .ok (.iload_n 3, 1) := by decide +kernel
theorem dX11_rests_55 : decode cX11_rests 55 = .ok (.iload_n 2, 1) := by decide +kernel
theorem dX11_rests_56 : decode cX11_rests 56 = .ok (.if_icmp .ne 12, 3) := by decide +kernel
theorem dX11_rests_59 : decode cX11_rests 59 = .ok (.bipush 10, 2) := by decide +kernel
theorem dX11_rests_61 : decode cX11_rests 61 = .ok (.iload 4, 2) := by decide +kernel
theorem dX11_rests_63 : decode cX11_rests 63 = .ok (.imul, 1) := by decide +kernel
theorem dX11_rests_64 : decode cX11_rests 64 = .ok (.iload 5, 2) := by decide +kernel
theorem dX11_rests_66 : decode cX11_rests 66 = .ok (.iadd, 1) := by decide +kernel
theorem dX11_rests_67 : decode cX11_rests 67 = .ok (.ireturn, 1) := by decide +kernel
theorem dX11_rests_68 : decode cX11_rests 68 = .ok (.iinc 3 1, 3) := by decide +kernel
theorem dX11_rests_71 : decode cX11_rests 71 = .ok (.iinc 5 1, 3) := by decide +kernel
theorem dX11_rests_74 : decode cX11_rests 74 = .ok (.goto (-37), 3) := by decide +kernel
theorem dX11_rests_77 : decode cX11_rests 77 = .ok (.iinc 4 1, 3) := by decide +kernel
theorem dX11_rests_80 : decode cX11_rests 80 = .ok (.goto (-52), 3) := by decide +kernel
theorem dX11_rests_83 : decode cX11_rests 83 = .ok (.iload_n 2, 1) := by decide +kernel
theorem dX11_rests_84 : decode cX11_rests 84 = .ok (.iconst (-1), 1) := by decide +kernel
theorem dX11_rests_85 : decode cX11_rests 85 = .ok (.if_icmp .ne 7, 3) := by decide +kernel
theorem dX11_rests_88 : decode cX11_rests 88 = .ok (.iload_n 3, 1) := by decide +kernel
theorem dX11_rests_89 : decode cX11_rests 89 = .ok (.goto 4, 3) := by decide +kernel
theorem dX11_rests_92 : decode cX11_rests 92 = .ok (.iconst (-1), 1) := by decide +kernel
theorem dX11_rests_93 : decode cX11_rests 93 = .ok (.ireturn, 1) := by decide +kernel
set_option maxRecDepth 20000 in
def kX11_rests_0 (g : sk_G) (d ck sk : Nat) (Q : sk_P) : sk_K := o_aload 0 (o_getf 11 1 (o_iload 1 (o_invT (g, d, ck, sk, xX11_rests, Q) 2 1 7 (fun Q => kX7_hasRow_0 g (d - 1) 0 0 Q) (o_ifeq (o_i (-1) (o_iret (g, d, ck, sk, xX11_rests, Q))) (o_iload 2 (o_i (-1) (o_icge (o_aload 0 (o_iload 1 (o_invB (g, d, ck, sk, xX11_rests, Q) xX11_playOut 1 11 0 0 (o_i (0) (o_istore 3 (o_i (0) (o_istore 4 (sk_B (g, d, ck, sk, xX11_rests, Q) 28)))))))) (o_i (-1) (o_iret (g, d, ck, sk, xX11_rests, Q))))))))))
set_option maxRecDepth 20000 in
theorem tX11_rests_0 {g : sk_G} {d ck sk : Nat} {Q : sk_P} : sk_S (g, d, ck, sk, xX11_rests, Q) 0 (kX11_rests_0 g d ck sk Q) := s_aload_n dX11_rests_0 rfl (s_getf (ci := 11) (j := 1) (C := RX11) (T := TX11) (N := 17) dX11_rests_1 rfl (by decide) (by decide) qf_X11_19 (s_iload_n dX11_rests_4 rfl (s_invT (X := xX7_hasRow) (ci := 7) (T := TX7) (N := 4) (K := (fun Q => kX7_hasRow_0 g (d - 1) 0 0 Q)) (fun _ => tX7_hasRow_0) rfl dX11_rests_5 m_X7_hasRow rfl (by decide) qm_X11_223 qi_X7_hasRow qe_X7_hasRow (s_ifeq (tgt := 16) dX11_rests_8 (by decide) (s_iconst dX11_rests_16 (s_iret dX11_rests_17 rfl)) (s_iload_n dX11_rests_11 rfl (s_iconst dX11_rests_12 (s_icge (tgt := 18) dX11_rests_13 (by decide) (s_aload_n dX11_rests_18 rfl (s_iload_n dX11_rests_19 rfl (s_invB (w' := (g, d, ck, sk, xX11_rests, Q)) (ci := 11) (ck := 0) (sk := 0) (T := TX11) (N := 17) dX11_rests_20 m_X11_playOut rfl (by decide) qm_X11_369 qi_X11_playOut qe_X11_playOut rfl (s_iconst dX11_rests_23 (s_istore_n dX11_rests_24 rfl (by decide : 3 < 6) (s_iconst dX11_rests_25 (s_istore dX11_rests_26 (by decide : 4 < 6) (sk_id)))))))) (s_iconst dX11_rests_16 (s_iret dX11_rests_17 rfl)))))))))
def kX11_rests_28 (g : sk_G) (d ck sk : Nat) (Q : sk_P) : sk_K := o_iload 4 (o_i (4) (o_icge (o_iload 2 (o_i (-1) (o_icne (o_i (-1) (o_iret (g, d, ck, sk, xX11_rests, Q))) (o_iload 3 (o_iret (g, d, ck, sk, xX11_rests, Q)))))) (o_i (0) (o_istore 5 (sk_B (g, d, ck, sk, xX11_rests, Q) 37)))))
theorem tX11_rests_28 {g : sk_G} {d ck sk : Nat} {Q : sk_P} : sk_S (g, d, ck, sk, xX11_rests, Q) 28 (kX11_rests_28 g d ck sk Q) := s_iload dX11_rests_28 (s_iconst dX11_rests_30 (s_icge (tgt := 83) dX11_rests_31 (by decide) (s_iload_n dX11_rests_83 rfl (s_iconst dX11_rests_84 (s_icne (tgt := 92) dX11_rests_85 (by decide) (s_iconst dX11_rests_92 (s_iret dX11_rests_93 rfl)) (s_iload_n dX11_rests_88 rfl (s_goto (tgt := 93) dX11_rests_89 (by decide) (s_iret dX11_rests_93 rfl)))))) (s_iconst dX11_rests_34 (s_istore dX11_rests_35 (by decide : 5 < 6) (sk_id)))))
set_option maxRecDepth 20000 in
def kX11_rests_37 (g : sk_G) (d ck sk : Nat) (Q : sk_P) : sk_K := o_iload 5 (o_i (3) (o_icge (o_iinc 4 (1) (sk_B (g, d, ck, sk, xX11_rests, Q) 28)) (o_aload 0 (o_iload 4 (o_iload 5 (o_invB (g, d, ck, sk, xX11_rests, Q) xX11_isRest 2 11 0 0 (o_ifeq (o_iinc 5 (1) (sk_B (g, d, ck, sk, xX11_rests, Q) 37)) (o_iload 3 (o_iload 2 (o_icne (o_iinc 3 (1) (o_iinc 5 (1) (sk_B (g, d, ck, sk, xX11_rests, Q) 37))) (o_i (10) (o_iload 4 (o_imul (o_iload 5 (o_iadd (o_iret (g, d, ck, sk, xX11_rests, Q)))))))))))))))))
set_option maxRecDepth 20000 in
theorem tX11_rests_37 {g : sk_G} {d ck sk : Nat} {Q : sk_P} : sk_S (g, d, ck, sk, xX11_rests, Q) 37 (kX11_rests_37 g d ck sk Q) := s_iload dX11_rests_37 (s_iconst dX11_rests_39 (s_icge (tgt := 77) dX11_rests_40 (by decide) (s_iinc dX11_rests_77 (by decide : 4 < 6) (s_goto (tgt := 28) dX11_rests_80 (by decide) (sk_id))) (s_aload_n dX11_rests_43 rfl (s_iload dX11_rests_44 (s_iload dX11_rests_46 (s_invB (w' := (g, d, ck, sk, xX11_rests, Q)) (ci := 11) (ck := 0) (sk := 0) (T := TX11) (N := 17) dX11_rests_48 m_X11_isRest rfl (by decide) qm_X11_373 qi_X11_isRest qe_X11_isRest rfl (s_ifeq (tgt := 71) dX11_rests_51 (by decide) (s_iinc dX11_rests_71 (by decide : 5 < 6) (s_goto (tgt := 37) dX11_rests_74 (by decide) (sk_id))) (s_iload_n dX11_rests_54 rfl (s_iload_n dX11_rests_55 rfl (s_icne (tgt := 68) dX11_rests_56 (by decide) (s_iinc dX11_rests_68 (by decide : 3 < 6) (s_iinc dX11_rests_71 (by decide : 5 < 6) (s_goto (tgt := 37) dX11_rests_74 (by decide) (sk_id)))) (s_bipush dX11_rests_59 rfl (s_iload dX11_rests_61 (s_imul dX11_rests_63 (s_iload dX11_rests_64 (s_iadd dX11_rests_66 (s_iret dX11_rests_67 rfl))))))))))))))))
theorem dX11_isRest_0 : decode cX11_isRest 0 = .ok (.iconst 0, 1) := by decide +kernel
theorem dX11_isRest_1 : decode cX11_isRest 1 = .ok (.istore_n 3, 1) := by decide +kernel
theorem dX11_isRest_2 : decode cX11_isRest 2 = .ok (.iload_n 3, 1) := by decide +kernel
theorem dX11_isRest_3 : decode cX11_isRest 3 = .ok (.iconst 4, 1) := by decide +kernel
theorem dX11_isRest_4 : decode cX11_isRest 4 = .ok (.if_icmp .ge 26, 3) := by decide +kernel
theorem dX11_isRest_7 : decode cX11_isRest 7 = .ok (.aload_n 0, 1) := by decide +kernel
theorem dX11_isRest_8 : decode cX11_isRest 8 = .ok (.getfield 85, 3) := by decide +kernel
theorem dX11_isRest_11 : decode cX11_isRest 11 = .ok (.iload_n 3, 1) := by decide +kernel
theorem dX11_isRest_12 : decode cX11_isRest 12 = .ok (.iaload, 1) := by decide +kernel
theorem dX11_isRest_13 : decode cX11_isRest 13 = .ok (.aload_n 0, 1) := by decide +kernel
theorem dX11_isRest_14 : decode cX11_isRest 14 = .ok (.getfield 85, 3) := by decide +kernel
theorem dX11_isRest_17 : decode cX11_isRest 17 = .ok (.iload_n 1, 1) := by decide +kernel
theorem dX11_isRest_18 : decode cX11_isRest 18 = .ok (.iaload, 1) := by decide +kernel
theorem dX11_isRest_19 : decode cX11_isRest 19 = .ok (.if_icmp .le 5, 3) := by decide +kernel
theorem dX11_isRest_22 : decode cX11_isRest 22 = .ok (.iconst 0, 1) := by decide +kernel
theorem dX11_isRest_23 : decode cX11_isRest 23 = .ok (.ireturn, 1) := by decide +kernel
theorem dX11_isRest_24 : decode cX11_isRest 24 = .ok (.iinc 3 1, 3) := by decide +kernel
theorem dX11_isRest_27 : decode cX11_isRest 27 = .ok (.goto (-25), 3) := by decide +kernel
theorem dX11_isRest_30 : decode cX11_isRest 30 = .ok (.iconst 0, 1) := by decide +kernel
theorem dX11_isRest_31 : decode cX11_isRest 31 = .ok (.istore_n 3, 1) := by decide +kernel
theorem dX11_isRest_32 : decode cX11_isRest 32 = .ok (.iload_n 3, 1) := by decide +kernel
theorem dX11_isRest_33 : decode cX11_isRest 33 = .ok (.iconst 3, 1) := by decide +kernel
theorem dX11_isRest_34 : decode cX11_isRest 34 = .ok (.if_icmp .ge 34, 3) := by decide +kernel
theorem dX11_isRest_37 : decode cX11_isRest 37 = .ok (.aload_n 0, 1) := by decide +kernel
theorem dX11_isRest_38 : decode cX11_isRest 38 = .ok (.getfield 88, 3) := by decide +kernel
theorem dX11_isRest_41 : decode cX11_isRest 41 = .ok (.iconst 3, 1) := by decide +kernel
theorem dX11_isRest_42 : decode cX11_isRest 42 = .ok (.iload_n 1, 1) := by decide +kernel
theorem dX11_isRest_43 : decode cX11_isRest 43 = .ok (.imul, 1) := by decide +kernel
theorem dX11_isRest_44 : decode cX11_isRest 44 = .ok (.iload_n 3, 1) := by decide +kernel
theorem dX11_isRest_45 : decode cX11_isRest 45 = .ok (.iadd, 1) := by decide +kernel
theorem dX11_isRest_46 : decode cX11_isRest 46 = .ok (.iaload, 1) := by decide +kernel
theorem dX11_isRest_47 : decode cX11_isRest 47 = .ok (.aload_n 0, 1) := by decide +kernel
theorem dX11_isRest_48 : decode cX11_isRest 48 = .ok (.getfield 88, 3) := by decide +kernel
theorem dX11_isRest_51 : decode cX11_isRest 51 = .ok (.iconst 3, 1) := by decide +kernel
theorem dX11_isRest_52 : decode cX11_isRest 52 = .ok (.iload_n 1, 1) := by decide +kernel
theorem dX11_isRest_53 : decode cX11_isRest 53 = .ok (.imul, 1) := by decide +kernel
theorem dX11_isRest_54 : decode cX11_isRest 54 = .ok (.iload_n 2, 1) := by decide +kernel
theorem dX11_isRest_55 : decode cX11_isRest 55 = .ok (.iadd, 1) := by decide +kernel
theorem dX11_isRest_56 : decode cX11_isRest 56 = .ok (.iaload, 1) := by decide +kernel
theorem dX11_isRest_57 : decode cX11_isRest 57 = .ok (.if_icmp .le 5, 3) := by decide +kernel
theorem dX11_isRest_60 : decode cX11_isRest 60 = .ok (.iconst 0, 1) := by decide +kernel
theorem dX11_isRest_61 : decode cX11_isRest 61 = .ok (.ireturn, 1) := by decide +kernel
theorem dX11_isRest_62 : decode cX11_isRest 62 = .ok (.iinc 3 1, 3) := by decide +kernel
theorem dX11_isRest_65 : decode cX11_isRest 65 = .ok (.goto (-33), 3) := by decide +kernel
theorem dX11_isRest_68 : decode cX11_isRest 68 = .ok (.iconst 1, 1) := by decide +kernel
theorem dX11_isRest_69 : decode cX11_isRest 69 = .ok (.ireturn, 1) := by decide +kernel
def kX11_isRest_0 (g : sk_G) (d ck sk : Nat) (Q : sk_P) : sk_K := o_i (0) (o_istore 3 (sk_B (g, d, ck, sk, xX11_isRest, Q) 2))
theorem tX11_isRest_0 {g : sk_G} {d ck sk : Nat} {Q : sk_P} : sk_S (g, d, ck, sk, xX11_isRest, Q) 0 (kX11_isRest_0 g d ck sk Q) := s_iconst dX11_isRest_0 (s_istore_n dX11_isRest_1 rfl (by decide : 3 < 4) (sk_id))
set_option maxRecDepth 20000 in
def kX11_isRest_2 (g : sk_G) (d ck sk : Nat) (Q : sk_P) : sk_K := o_iload 3 (o_i (4) (o_icge (o_i (0) (o_istore 3 (sk_B (g, d, ck, sk, xX11_isRest, Q) 32))) (o_aload 0 (o_getf 11 13 (o_iload 3 (o_iaload (o_aload 0 (o_getf 11 13 (o_iload 1 (o_iaload (o_icle (o_iinc 3 (1) (sk_B (g, d, ck, sk, xX11_isRest, Q) 2)) (o_i (0) (o_zret (g, d, ck, sk, xX11_isRest, Q))))))))))))))
set_option maxRecDepth 20000 in
theorem tX11_isRest_2 {g : sk_G} {d ck sk : Nat} {Q : sk_P} : sk_S (g, d, ck, sk, xX11_isRest, Q) 2 (kX11_isRest_2 g d ck sk Q) := s_iload_n dX11_isRest_2 rfl (s_iconst dX11_isRest_3 (s_icge (tgt := 30) dX11_isRest_4 (by decide) (s_iconst dX11_isRest_30 (s_istore_n dX11_isRest_31 rfl (by decide : 3 < 4) (sk_id))) (s_aload_n dX11_isRest_7 rfl (s_getf (ci := 11) (j := 13) (C := RX11) (T := TX11) (N := 17) dX11_isRest_8 rfl (by decide) (by decide) qf_X11_85 (s_iload_n dX11_isRest_11 rfl (s_iaload dX11_isRest_12 (s_aload_n dX11_isRest_13 rfl (s_getf (ci := 11) (j := 13) (C := RX11) (T := TX11) (N := 17) dX11_isRest_14 rfl (by decide) (by decide) qf_X11_85 (s_iload_n dX11_isRest_17 rfl (s_iaload dX11_isRest_18 (s_icle (tgt := 24) dX11_isRest_19 (by decide) (s_iinc dX11_isRest_24 (by decide : 3 < 4) (s_goto (tgt := 2) dX11_isRest_27 (by decide) (sk_id))) (s_iconst dX11_isRest_22 (s_zret dX11_isRest_23 rfl)))))))))))))
set_option maxRecDepth 20000 in
def kX11_isRest_32 (g : sk_G) (d ck sk : Nat) (Q : sk_P) : sk_K := o_iload 3 (o_i (3) (o_icge (o_i (1) (o_zret (g, d, ck, sk, xX11_isRest, Q))) (o_aload 0 (o_getf 11 14 (o_i (3) (o_iload 1 (o_imul (o_iload 3 (o_iadd (o_iaload (o_aload 0 (o_getf 11 14 (o_i (3) (o_iload 1 (o_imul (o_iload 2 (o_iadd (o_iaload (o_icle (o_iinc 3 (1) (sk_B (g, d, ck, sk, xX11_isRest, Q) 32)) (o_i (0) (o_zret (g, d, ck, sk, xX11_isRest, Q))))))))))))))))))))))
set_option maxRecDepth 20000 in
theorem tX11_isRest_32 {g : sk_G} {d ck sk : Nat} {Q : sk_P} : sk_S (g, d, ck, sk, xX11_isRest, Q) 32 (kX11_isRest_32 g d ck sk Q) := s_iload_n dX11_isRest_32 rfl (s_iconst dX11_isRest_33 (s_icge (tgt := 68) dX11_isRest_34 (by decide) (s_iconst dX11_isRest_68 (s_zret dX11_isRest_69 rfl)) (s_aload_n dX11_isRest_37 rfl (s_getf (ci := 11) (j := 14) (C := RX11) (T := TX11) (N := 17) dX11_isRest_38 rfl (by decide) (by decide) qf_X11_88 (s_iconst dX11_isRest_41 (s_iload_n dX11_isRest_42 rfl (s_imul dX11_isRest_43 (s_iload_n dX11_isRest_44 rfl (s_iadd dX11_isRest_45 (s_iaload dX11_isRest_46 (s_aload_n dX11_isRest_47 rfl (s_getf (ci := 11) (j := 14) (C := RX11) (T := TX11) (N := 17) dX11_isRest_48 rfl (by decide) (by decide) qf_X11_88 (s_iconst dX11_isRest_51 (s_iload_n dX11_isRest_52 rfl (s_imul dX11_isRest_53 (s_iload_n dX11_isRest_54 rfl (s_iadd dX11_isRest_55 (s_iaload dX11_isRest_56 (s_icle (tgt := 62) dX11_isRest_57 (by decide) (s_iinc dX11_isRest_62 (by decide : 3 < 4) (s_goto (tgt := 32) dX11_isRest_65 (by decide) (sk_id))) (s_iconst dX11_isRest_60 (s_zret dX11_isRest_61 rfl)))))))))))))))))))))
theorem dX11_odds_0 : decode cX11_odds 0 = .ok (.aload_n 0, 1) := by decide +kernel
theorem dX11_odds_1 : decode cX11_odds 1 = .ok (.getfield 29, 3) := by decide +kernel
theorem dX11_odds_4 : decode cX11_odds 4 = .ok (.iload_n 1, 1) := by decide +kernel
theorem dX11_odds_5 : decode cX11_odds 5 = .ok (.invokevirtual 171, 3) := by decide +kernel
theorem dX11_odds_8 : decode cX11_odds 8 = .ok (.astore 5, 2) := by decide +kernel
theorem dX11_odds_10 : decode cX11_odds 10 = .ok (.iload_n 3, 1) := by decide +kernel
theorem dX11_odds_11 : decode cX11_odds 11 = .ok (.ifCond .lt 34, 3) := by decide +kernel
theorem dX11_odds_14 : decode cX11_odds 14 = .ok (.iload_n 3, 1) := by decide +kernel
theorem dX11_odds_15 : decode cX11_odds 15 = .ok (.bipush 100, 2) := by decide +kernel
theorem dX11_odds_17 : decode cX11_odds 17 = .ok (.if_icmp .gt 28, 3) := by decide +kernel
theorem dX11_odds_20 : decode cX11_odds 20 = .ok (.iload 4, 2) := by decide +kernel
theorem dX11_odds_22 : decode cX11_odds 22 = .ok (.ifCond .lt 23, 3) := by decide +kernel
theorem dX11_odds_25 : decode cX11_odds 25 = .ok (.iload 4, 2) := by decide +kernel
theorem dX11_odds_27 : decode cX11_odds 27 = .ok (.bipush 16, 2) := by decide +kernel
theorem dX11_odds_29 : decode cX11_odds 29 = .ok (.if_icmp .gt 16, 3) := by decide +kernel
theorem dX11_odds_32 : decode cX11_odds 32 = .ok (.aload_n 0, 1) := by decide +kernel
theorem dX11_odds_33 : decode cX11_odds 33 = .ok (.getfield 19, 3) := by decide +kernel
theorem dX11_odds_36 : decode cX11_odds 36 = .ok (.aload 5, 2) := by decide +kernel
theorem dX11_odds_38 : decode cX11_odds 38 = .ok (.iload_n 2, 1) := by decide +kernel
theorem dX11_odds_39 : decode cX11_odds 39 = .ok (.invokevirtual 202, 3) := by decide +kernel
theorem dX11_odds_42 : decode cX11_odds 42 = .ok (.ifCond .ne 5, 3) := by decide +kernel
theorem dX11_odds_45 : decode cX11_odds 45 = .ok (.iconst (-1), 1) := by decide +kernel
theorem dX11_odds_46 : decode cX11_odds 46 = .ok (.ireturn, 1) := by decide +kernel
theorem dX11_odds_47 : decode cX11_odds 47 = .ok (.ldc2_w 377, 3) := by decide +kernel
theorem dX11_odds_50 : decode cX11_odds 50 = .ok (.aload_n 0, 1) := by decide +kernel
theorem dX11_odds_51 : decode cX11_odds 51 = .ok (.iconst 0, 1) := by decide +kernel
theorem dX11_odds_52 : decode cX11_odds 52 = .ok (.aload_n 0, 1) := by decide +kernel
theorem dX11_odds_53 : decode cX11_odds 53 = .ok (.getfield 36, 3) := by decide +kernel
theorem dX11_odds_56 : decode cX11_odds 56 = .ok (.aload 5, 2) := by decide +kernel
theorem dX11_odds_58 : decode cX11_odds 58 = .ok (.iload_n 2, 1) := by decide +kernel
theorem dX11_odds_59 : decode cX11_odds 59 = .ok (.invokevirtual 271, 3) := by decide +kernel
theorem dX11_odds_62 : decode cX11_odds 62 = .ok (.iload 4, 2) := by decide +kernel
theorem dX11_odds_64 : decode cX11_odds 64 = .ok (.iload_n 3, 1) := by decide +kernel
theorem dX11_odds_65 : decode cX11_odds 65 = .ok (.invokestatic 379, 3) := by decide +kernel
theorem dX11_odds_68 : decode cX11_odds 68 = .ok (.l2i, 1) := by decide +kernel
theorem dX11_odds_69 : decode cX11_odds 69 = .ok (.ireturn, 1) := by decide +kernel
set_option maxRecDepth 20000 in
def kX11_odds_0 (g : sk_G) (d ck sk : Nat) (Q : sk_P) : sk_K := o_aload 0 (o_getf 11 3 (o_iload 1 (o_invT (g, d, ck, sk, xX11_odds, Q) 2 1 8 (fun Q => kX8_writingAt_0 g (d - 1) 0 0 Q) (o_astore 5 (o_iload 3 (o_iflt (o_i (-1) (o_iret (g, d, ck, sk, xX11_odds, Q))) (o_iload 3 (o_i (100) (o_icgt (o_i (-1) (o_iret (g, d, ck, sk, xX11_odds, Q))) (o_iload 4 (o_iflt (o_i (-1) (o_iret (g, d, ck, sk, xX11_odds, Q))) (o_iload 4 (o_i (16) (o_icgt (o_i (-1) (o_iret (g, d, ck, sk, xX11_odds, Q))) (o_aload 0 (o_getf 11 1 (o_aload 5 (o_iload 2 (o_invB (g, d, ck, sk, xX11_odds, Q) xX7_does 2 7 0 0 (o_ifne (o_l (1000000000) (o_aload 0 (o_i (0) (o_aload 0 (o_getf 11 4 (o_aload 5 (o_iload 2 (o_invB (g, d, ck, sk, xX11_odds, Q) xX11_lettersThat 4 11 0 0 (o_iload 4 (o_iload 3 (o_stcB (g, d, ck, sk, xX11_odds, Q) xX11_readRightly 4 0 0 (o_l2i (o_iret (g, d, ck, sk, xX11_odds, Q)))))))))))))) (o_i (-1) (o_iret (g, d, ck, sk, xX11_odds, Q)))))))))))))))))))))))
set_option maxRecDepth 20000 in
theorem tX11_odds_0 {g : sk_G} {d ck sk : Nat} {Q : sk_P} : sk_S (g, d, ck, sk, xX11_odds, Q) 0 (kX11_odds_0 g d ck sk Q) := s_aload_n dX11_odds_0 rfl (s_getf (ci := 11) (j := 3) (C := RX11) (T := TX11) (N := 17) dX11_odds_1 rfl (by decide) (by decide) qf_X11_29 (s_iload_n dX11_odds_4 rfl (s_invT (X := xX8_writingAt) (ci := 8) (T := TX8) (N := 7) (K := (fun Q => kX8_writingAt_0 g (d - 1) 0 0 Q)) (fun _ => tX8_writingAt_0) rfl dX11_odds_5 m_X8_writingAt rfl (by decide) qm_X11_171 qi_X8_writingAt qe_X8_writingAt (s_astore dX11_odds_8 (by decide : 5 < 6) (s_iload_n dX11_odds_10 rfl (s_iflt (tgt := 45) dX11_odds_11 (by decide) (s_iconst dX11_odds_45 (s_iret dX11_odds_46 rfl)) (s_iload_n dX11_odds_14 rfl (s_bipush dX11_odds_15 rfl (s_icgt (tgt := 45) dX11_odds_17 (by decide) (s_iconst dX11_odds_45 (s_iret dX11_odds_46 rfl)) (s_iload dX11_odds_20 (s_iflt (tgt := 45) dX11_odds_22 (by decide) (s_iconst dX11_odds_45 (s_iret dX11_odds_46 rfl)) (s_iload dX11_odds_25 (s_bipush dX11_odds_27 rfl (s_icgt (tgt := 45) dX11_odds_29 (by decide) (s_iconst dX11_odds_45 (s_iret dX11_odds_46 rfl)) (s_aload_n dX11_odds_32 rfl (s_getf (ci := 11) (j := 1) (C := RX11) (T := TX11) (N := 17) dX11_odds_33 rfl (by decide) (by decide) qf_X11_19 (s_aload dX11_odds_36 (s_iload_n dX11_odds_38 rfl (s_invB (w' := (g, d, ck, sk, xX11_odds, Q)) (ci := 7) (ck := 0) (sk := 0) (T := TX7) (N := 4) dX11_odds_39 m_X7_does rfl (by decide) qm_X11_202 qi_X7_does qe_X7_does rfl (s_ifne (tgt := 47) dX11_odds_42 (by decide) (s_ldc2 dX11_odds_47 qk_X11_377 rfl (s_aload_n dX11_odds_50 rfl (s_iconst dX11_odds_51 (s_aload_n dX11_odds_52 rfl (s_getf (ci := 11) (j := 4) (C := RX11) (T := TX11) (N := 17) dX11_odds_53 rfl (by decide) (by decide) qf_X11_36 (s_aload dX11_odds_56 (s_iload_n dX11_odds_58 rfl (s_invB (w' := (g, d, ck, sk, xX11_odds, Q)) (ci := 11) (ck := 0) (sk := 0) (T := TX11) (N := 17) dX11_odds_59 m_X11_lettersThat rfl (by decide) qm_X11_271 qi_X11_lettersThat qe_X11_lettersThat rfl (s_iload dX11_odds_62 (s_iload_n dX11_odds_64 rfl (s_stcB (w' := (g, d, ck, sk, xX11_odds, Q)) (ck := 0) (sk := 0) dX11_odds_65 m_X11_readRightly qm_X11_379 qs_X11_readRightly rfl (s_l2i dX11_odds_68 (s_iret dX11_odds_69 rfl))))))))))))) (s_iconst dX11_odds_45 (s_iret dX11_odds_46 rfl))))))))))))))))))))))
theorem dX11_readRightly_0 : decode cX11_readRightly 0 = .ok (.iload_n 3, 1) := by decide +kernel
theorem dX11_readRightly_1 : decode cX11_readRightly 1 = .ok (.ifCond .gt 5, 3) := by decide +kernel
theorem dX11_readRightly_4 : decode cX11_readRightly 4 = .ok (.lload_n 0, 1) := by decide +kernel
theorem dX11_readRightly_5 : decode cX11_readRightly 5 = .ok (.lreturn, 1) := by decide +kernel
theorem dX11_readRightly_6 : decode cX11_readRightly 6 = .ok (.iload_n 2, 1) := by decide +kernel
theorem dX11_readRightly_7 : decode cX11_readRightly 7 = .ok (.iload_n 3, 1) := by decide +kernel
theorem dX11_readRightly_8 : decode cX11_readRightly 8 = .ok (.if_icmp .lt 15, 3) := by decide +kernel
theorem dX11_readRightly_11 : decode cX11_readRightly 11 = .ok (.iload_n 2, 1) := by decide +kernel
theorem dX11_readRightly_12 : decode cX11_readRightly 12 = .ok (.bipush 16, 2) := by decide +kernel
theorem dX11_readRightly_14 : decode cX11_readRightly 14 = .ok (.if_icmp .gt 9, 3) := by decide +kernel
theorem dX11_readRightly_17 : decode cX11_readRightly 17 = .ok (.lload_n 0, 1) := by decide +kernel
theorem dX11_readRightly_18 : decode cX11_readRightly 18 = .ok (.lconst 0, 1) := by decide +kernel
theorem dX11_readRightly_19 : decode cX11_readRightly 19 = .ok (.lcmp, 1) := by decide +kernel
theorem dX11_readRightly_20 : decode cX11_readRightly 20 = .ok (.ifCond .ne 5, 3) := by decide +kernel
theorem dX11_readRightly_23 : decode cX11_readRightly 23 = .ok (.lconst 0, 1) := by decide +kernel
theorem dX11_readRightly_24 : decode cX11_readRightly 24 = .ok (.lreturn, 1) := by decide +kernel
theorem dX11_readRightly_25 : decode cX11_readRightly 25 = .ok (.lload_n 0, 1) := by decide +kernel
theorem dX11_readRightly_26 : decode cX11_readRightly 26 = .ok (.iload 4, 2) := by decide +kernel
theorem dX11_readRightly_28 : decode cX11_readRightly 28 = .ok (.i2l, 1) := by decide +kernel
theorem dX11_readRightly_29 : decode cX11_readRightly 29 = .ok (.lmul, 1) := by decide +kernel
theorem dX11_readRightly_30 : decode cX11_readRightly 30 = .ok (.ldc2_w 504, 3) := by decide +kernel
theorem dX11_readRightly_33 : decode cX11_readRightly 33 = .ok (.ldiv, 1) := by decide +kernel
theorem dX11_readRightly_34 : decode cX11_readRightly 34 = .ok (.lstore 5, 2) := by decide +kernel
theorem dX11_readRightly_36 : decode cX11_readRightly 36 = .ok (.lload 5, 2) := by decide +kernel
theorem dX11_readRightly_38 : decode cX11_readRightly 38 = .ok (.iload_n 2, 1) := by decide +kernel
theorem dX11_readRightly_39 : decode cX11_readRightly 39 = .ok (.iconst 1, 1) := by decide +kernel
theorem dX11_readRightly_40 : decode cX11_readRightly 40 = .ok (.isub, 1) := by decide +kernel
theorem dX11_readRightly_41 : decode cX11_readRightly 41 = .ok (.iload_n 3, 1) := by decide +kernel
theorem dX11_readRightly_42 : decode cX11_readRightly 42 = .ok (.iload 4, 2) := by decide +kernel
theorem dX11_readRightly_44 : decode cX11_readRightly 44 = .ok (.invokestatic 379, 3) := by decide +kernel
theorem dX11_readRightly_47 : decode cX11_readRightly 47 = .ok (.lload_n 0, 1) := by decide +kernel
theorem dX11_readRightly_48 : decode cX11_readRightly 48 = .ok (.lload 5, 2) := by decide +kernel
theorem dX11_readRightly_50 : decode cX11_readRightly 50 = .ok (.lsub, 1) := by decide +kernel
theorem dX11_readRightly_51 : decode cX11_readRightly 51 = .ok (.iload_n 2, 1) := by decide +kernel
theorem dX11_readRightly_52 : decode cX11_readRightly 52 = .ok (.iconst 1, 1) := by decide +kernel
theorem dX11_readRightly_53 : decode cX11_readRightly 53 = .ok (.isub, 1) := by decide +kernel
theorem dX11_readRightly_54 : decode cX11_readRightly 54 = .ok (.iload_n 3, 1) := by decide +kernel
theorem dX11_readRightly_55 : decode cX11_readRightly 55 = .ok (.iconst 1, 1) := by decide +kernel
theorem dX11_readRightly_56 : decode cX11_readRightly 56 = .ok (.isub, 1) := by decide +kernel
theorem dX11_readRightly_57 : decode cX11_readRightly 57 = .ok (.iload 4, 2) := by decide +kernel
theorem dX11_readRightly_59 : decode cX11_readRightly 59 = .ok (.invokestatic 379, 3) := by decide +kernel
theorem dX11_readRightly_62 : decode cX11_readRightly 62 = .ok (.ladd, 1) := by decide +kernel
theorem dX11_readRightly_63 : decode cX11_readRightly 63 = .ok (.lreturn, 1) := by decide +kernel
set_option maxRecDepth 20000 in
def kX11_readRightly_0 (g : sk_G) (d ck sk : Nat) (Q : sk_P) : sk_K := o_iload 3 (o_ifgt (o_iload 2 (o_iload 3 (o_iclt (o_l (0) (o_lret (g, d, ck, sk, xX11_readRightly, Q))) (o_iload 2 (o_i (16) (o_icgt (o_l (0) (o_lret (g, d, ck, sk, xX11_readRightly, Q))) (o_lload 0 (o_l (0) (o_lcmp (o_ifne (o_lload 0 (o_iload 4 (o_i2l (o_lmul (o_l (100) (o_ldiv (o_lstore 5 (o_lload 5 (o_iload 2 (o_i (1) (o_isub (o_iload 3 (o_iload 4 (o_stcB (g, d, ck, sk, xX11_readRightly, Q) xX11_readRightly 4 0 0 (o_lload 0 (o_lload 5 (o_lsub (o_iload 2 (o_i (1) (o_isub (o_iload 3 (o_i (1) (o_isub (o_iload 4 (o_stcB (g, d, ck, sk, xX11_readRightly, Q) xX11_readRightly 4 0 0 (o_ladd (o_lret (g, d, ck, sk, xX11_readRightly, Q)))))))))))))))))))))))))))) (o_l (0) (o_lret (g, d, ck, sk, xX11_readRightly, Q))))))))))))) (o_lload 0 (o_lret (g, d, ck, sk, xX11_readRightly, Q))))
set_option maxRecDepth 20000 in
theorem tX11_readRightly_0 {g : sk_G} {d ck sk : Nat} {Q : sk_P} : sk_S (g, d, ck, sk, xX11_readRightly, Q) 0 (kX11_readRightly_0 g d ck sk Q) := s_iload_n dX11_readRightly_0 rfl (s_ifgt (tgt := 6) dX11_readRightly_1 (by decide) (s_iload_n dX11_readRightly_6 rfl (s_iload_n dX11_readRightly_7 rfl (s_iclt (tgt := 23) dX11_readRightly_8 (by decide) (s_lconst dX11_readRightly_23 rfl (s_lret dX11_readRightly_24 rfl)) (s_iload_n dX11_readRightly_11 rfl (s_bipush dX11_readRightly_12 rfl (s_icgt (tgt := 23) dX11_readRightly_14 (by decide) (s_lconst dX11_readRightly_23 rfl (s_lret dX11_readRightly_24 rfl)) (s_lload_n dX11_readRightly_17 rfl (s_lconst dX11_readRightly_18 rfl (s_lcmp dX11_readRightly_19 (s_ifne (tgt := 25) dX11_readRightly_20 (by decide) (s_lload_n dX11_readRightly_25 rfl (s_iload dX11_readRightly_26 (s_i2l dX11_readRightly_28 (s_lmul dX11_readRightly_29 (s_ldc2 dX11_readRightly_30 qk_X11_504 rfl (s_ldiv dX11_readRightly_33 (s_lstore dX11_readRightly_34 (by decide : 5 + 1 < 7) (s_lload dX11_readRightly_36 (s_iload_n dX11_readRightly_38 rfl (s_iconst dX11_readRightly_39 (s_isub dX11_readRightly_40 (s_iload_n dX11_readRightly_41 rfl (s_iload dX11_readRightly_42 (s_stcB (w' := (g, d, ck, sk, xX11_readRightly, Q)) (ck := 0) (sk := 0) dX11_readRightly_44 m_X11_readRightly qm_X11_379 qs_X11_readRightly rfl (s_lload_n dX11_readRightly_47 rfl (s_lload dX11_readRightly_48 (s_lsub dX11_readRightly_50 (s_iload_n dX11_readRightly_51 rfl (s_iconst dX11_readRightly_52 (s_isub dX11_readRightly_53 (s_iload_n dX11_readRightly_54 rfl (s_iconst dX11_readRightly_55 (s_isub dX11_readRightly_56 (s_iload dX11_readRightly_57 (s_stcB (w' := (g, d, ck, sk, xX11_readRightly, Q)) (ck := 0) (sk := 0) dX11_readRightly_59 m_X11_readRightly qm_X11_379 qs_X11_readRightly rfl (s_ladd dX11_readRightly_62 (s_lret dX11_readRightly_63 rfl))))))))))))))))))))))))))) (s_lconst dX11_readRightly_23 rfl (s_lret dX11_readRightly_24 rfl)))))))))))) (s_lload_n dX11_readRightly_4 rfl (s_lret dX11_readRightly_5 rfl)))
theorem dX11_shares_0 : decode cX11_shares 0 = .ok (.aload_n 0, 1) := by decide +kernel
theorem dX11_shares_1 : decode cX11_shares 1 = .ok (.getfield 19, 3) := by decide +kernel
theorem dX11_shares_4 : decode cX11_shares 4 = .ok (.iload_n 1, 1) := by decide +kernel
theorem dX11_shares_5 : decode cX11_shares 5 = .ok (.invokevirtual 151, 3) := by decide +kernel
theorem dX11_shares_8 : decode cX11_shares 8 = .ok (.ifCond .eq 14, 3) := by decide +kernel
theorem dX11_shares_11 : decode cX11_shares 11 = .ok (.iload_n 2, 1) := by decide +kernel
theorem dX11_shares_12 : decode cX11_shares 12 = .ok (.ifCond .lt 10, 3) := by decide +kernel
theorem dX11_shares_15 : decode cX11_shares 15 = .ok (.iload_n 2, 1) := by decide +kernel
theorem dX11_shares_16 : decode cX11_shares 16 = .ok (.sipush 999, 3) := by decide +kernel
theorem dX11_shares_19 : decode cX11_shares 19 = .ok (.if_icmp .le 5, 3) := by decide +kernel
theorem dX11_shares_22 : decode cX11_shares 22 = .ok (.iconst (-1), 1) := by decide +kernel
theorem dX11_shares_23 : decode cX11_shares 23 = .ok (.ireturn, 1) := by decide +kernel
theorem dX11_shares_24 : decode cX11_shares 24 = .ok (.aload_n 0, 1) := by decide +kernel
theorem dX11_shares_25 : decode cX11_shares 25 = .ok (.getfield 36, 3) := by decide +kernel
theorem dX11_shares_28 : decode cX11_shares 28 = .ok (.invokevirtual 383, 3) := by decide +kernel
theorem dX11_shares_31 : decode cX11_shares 31 = .ok (.istore_n 3, 1) := by decide +kernel
theorem dX11_shares_32 : decode cX11_shares 32 = .ok (.iload_n 3, 1) := by decide +kernel
theorem dX11_shares_33 : decode cX11_shares 33 = .ok (.ifCond .ne 7, 3) := by decide +kernel
theorem dX11_shares_36 : decode cX11_shares 36 = .ok (.iconst 0, 1) := by decide +kernel
theorem dX11_shares_37 : decode cX11_shares 37 = .ok (.goto 15, 3) := by decide +kernel
theorem dX11_shares_40 : decode cX11_shares 40 = .ok (.iload_n 2, 1) := by decide +kernel
theorem dX11_shares_41 : decode cX11_shares 41 = .ok (.aload_n 0, 1) := by decide +kernel
theorem dX11_shares_42 : decode cX11_shares 42 = .ok (.getfield 36, 3) := by decide +kernel
theorem dX11_shares_45 : decode cX11_shares 45 = .ok (.iload_n 1, 1) := by decide +kernel
theorem dX11_shares_46 : decode cX11_shares 46 = .ok (.invokevirtual 168, 3) := by decide +kernel
theorem dX11_shares_49 : decode cX11_shares 49 = .ok (.imul, 1) := by decide +kernel
theorem dX11_shares_50 : decode cX11_shares 50 = .ok (.iload_n 3, 1) := by decide +kernel
theorem dX11_shares_51 : decode cX11_shares 51 = .ok (.idiv, 1) := by decide +kernel
theorem dX11_shares_52 : decode cX11_shares 52 = .ok (.ireturn, 1) := by decide +kernel
set_option maxRecDepth 20000 in
def kX11_shares_0 (g : sk_G) (d ck sk : Nat) (Q : sk_P) : sk_K := o_aload 0 (o_getf 11 1 (o_iload 1 (o_invT (g, d, ck, sk, xX11_shares, Q) 2 1 7 (fun Q => kX7_hasHand_0 g (d - 1) 0 0 Q) (o_ifeq (o_i (-1) (o_iret (g, d, ck, sk, xX11_shares, Q))) (o_iload 2 (o_iflt (o_i (-1) (o_iret (g, d, ck, sk, xX11_shares, Q))) (o_iload 2 (o_i (999) (o_icle (o_aload 0 (o_getf 11 4 (o_invB (g, d, ck, sk, xX11_shares, Q) xX5_strengthInAll 0 5 0 0 (o_istore 3 (o_iload 3 (o_ifne (o_iload 2 (o_aload 0 (o_getf 11 4 (o_iload 1 (o_invB (g, d, ck, sk, xX11_shares, Q) xX5_strengthOf 1 5 0 0 (o_imul (o_iload 3 (o_idiv (o_iret (g, d, ck, sk, xX11_shares, Q)))))))))) (o_i (0) (o_iret (g, d, ck, sk, xX11_shares, Q))))))))) (o_i (-1) (o_iret (g, d, ck, sk, xX11_shares, Q))))))))))))
set_option maxRecDepth 20000 in
theorem tX11_shares_0 {g : sk_G} {d ck sk : Nat} {Q : sk_P} : sk_S (g, d, ck, sk, xX11_shares, Q) 0 (kX11_shares_0 g d ck sk Q) := s_aload_n dX11_shares_0 rfl (s_getf (ci := 11) (j := 1) (C := RX11) (T := TX11) (N := 17) dX11_shares_1 rfl (by decide) (by decide) qf_X11_19 (s_iload_n dX11_shares_4 rfl (s_invT (X := xX7_hasHand) (ci := 7) (T := TX7) (N := 4) (K := (fun Q => kX7_hasHand_0 g (d - 1) 0 0 Q)) (fun _ => tX7_hasHand_0) rfl dX11_shares_5 m_X7_hasHand rfl (by decide) qm_X11_151 qi_X7_hasHand qe_X7_hasHand (s_ifeq (tgt := 22) dX11_shares_8 (by decide) (s_iconst dX11_shares_22 (s_iret dX11_shares_23 rfl)) (s_iload_n dX11_shares_11 rfl (s_iflt (tgt := 22) dX11_shares_12 (by decide) (s_iconst dX11_shares_22 (s_iret dX11_shares_23 rfl)) (s_iload_n dX11_shares_15 rfl (s_sipush dX11_shares_16 rfl (s_icle (tgt := 24) dX11_shares_19 (by decide) (s_aload_n dX11_shares_24 rfl (s_getf (ci := 11) (j := 4) (C := RX11) (T := TX11) (N := 17) dX11_shares_25 rfl (by decide) (by decide) qf_X11_36 (s_invB (w' := (g, d, ck, sk, xX11_shares, Q)) (ci := 5) (ck := 0) (sk := 0) (T := TX5) (N := 6) dX11_shares_28 m_X5_strengthInAll rfl (by decide) qm_X11_383 qi_X5_strengthInAll qe_X5_strengthInAll rfl (s_istore_n dX11_shares_31 rfl (by decide : 3 < 4) (s_iload_n dX11_shares_32 rfl (s_ifne (tgt := 40) dX11_shares_33 (by decide) (s_iload_n dX11_shares_40 rfl (s_aload_n dX11_shares_41 rfl (s_getf (ci := 11) (j := 4) (C := RX11) (T := TX11) (N := 17) dX11_shares_42 rfl (by decide) (by decide) qf_X11_36 (s_iload_n dX11_shares_45 rfl (s_invB (w' := (g, d, ck, sk, xX11_shares, Q)) (ci := 5) (ck := 0) (sk := 0) (T := TX5) (N := 6) dX11_shares_46 m_X5_strengthOf rfl (by decide) qm_X11_168 qi_X5_strengthOf qe_X5_strengthOf rfl (s_imul dX11_shares_49 (s_iload_n dX11_shares_50 rfl (s_idiv dX11_shares_51 (s_iret dX11_shares_52 rfl))))))))) (s_iconst dX11_shares_36 (s_goto (tgt := 52) dX11_shares_37 (by decide) (s_iret dX11_shares_52 rfl))))))))) (s_iconst dX11_shares_22 (s_iret dX11_shares_23 rfl)))))))))))
theorem dX11_most_0 : decode cX11_most 0 = .ok (.aload_n 0, 1) := by decide +kernel
theorem dX11_most_1 : decode cX11_most 1 = .ok (.getfield 19, 3) := by decide +kernel
theorem dX11_most_4 : decode cX11_most 4 = .ok (.invokevirtual 141, 3) := by decide +kernel
theorem dX11_most_7 : decode cX11_most 7 = .ok (.ifCond .eq 13, 3) := by decide +kernel
theorem dX11_most_10 : decode cX11_most 10 = .ok (.iload_n 1, 1) := by decide +kernel
theorem dX11_most_11 : decode cX11_most 11 = .ok (.ifCond .lt 9, 3) := by decide +kernel
theorem dX11_most_14 : decode cX11_most 14 = .ok (.iload_n 1, 1) := by decide +kernel
theorem dX11_most_15 : decode cX11_most 15 = .ok (.bipush 9, 2) := by decide +kernel
theorem dX11_most_17 : decode cX11_most 17 = .ok (.if_icmp .le 5, 3) := by decide +kernel
theorem dX11_most_20 : decode cX11_most 20 = .ok (.iconst (-1), 1) := by decide +kernel
theorem dX11_most_21 : decode cX11_most 21 = .ok (.ireturn, 1) := by decide +kernel
theorem dX11_most_22 : decode cX11_most 22 = .ok (.iload_n 1, 1) := by decide +kernel
theorem dX11_most_23 : decode cX11_most 23 = .ok (.ifCond .ne 11, 3) := by decide +kernel
theorem dX11_most_26 : decode cX11_most 26 = .ok (.aload_n 0, 1) := by decide +kernel
theorem dX11_most_27 : decode cX11_most 27 = .ok (.getfield 36, 3) := by decide +kernel
theorem dX11_most_30 : decode cX11_most 30 = .ok (.invokevirtual 220, 3) := by decide +kernel
theorem dX11_most_33 : decode cX11_most 33 = .ok (.ireturn, 1) := by decide +kernel
theorem dX11_most_34 : decode cX11_most 34 = .ok (.iload_n 1, 1) := by decide +kernel
theorem dX11_most_35 : decode cX11_most 35 = .ok (.iconst 1, 1) := by decide +kernel
theorem dX11_most_36 : decode cX11_most 36 = .ok (.if_icmp .ne 11, 3) := by decide +kernel
theorem dX11_most_39 : decode cX11_most 39 = .ok (.aload_n 0, 1) := by decide +kernel
theorem dX11_most_40 : decode cX11_most 40 = .ok (.getfield 36, 3) := by decide +kernel
theorem dX11_most_43 : decode cX11_most 43 = .ok (.invokevirtual 383, 3) := by decide +kernel
theorem dX11_most_46 : decode cX11_most 46 = .ok (.ireturn, 1) := by decide +kernel
theorem dX11_most_47 : decode cX11_most 47 = .ok (.iload_n 1, 1) := by decide +kernel
theorem dX11_most_48 : decode cX11_most 48 = .ok (.iconst 5, 1) := by decide +kernel
theorem dX11_most_49 : decode cX11_most 49 = .ok (.if_icmp .ne 15, 3) := by decide +kernel
theorem dX11_most_52 : decode cX11_most 52 = .ok (.aload_n 0, 1) := by decide +kernel
theorem dX11_most_53 : decode cX11_most 53 = .ok (.getfield 36, 3) := by decide +kernel
theorem dX11_most_56 : decode cX11_most 56 = .ok (.invokevirtual 220, 3) := by decide +kernel
theorem dX11_most_59 : decode cX11_most 59 = .ok (.ifCond .ne 5, 3) := by decide +kernel
theorem dX11_most_62 : decode cX11_most 62 = .ok (.iconst (-1), 1) := by decide +kernel
theorem dX11_most_63 : decode cX11_most 63 = .ok (.ireturn, 1) := by decide +kernel
theorem dX11_most_64 : decode cX11_most 64 = .ok (.iload_n 1, 1) := by decide +kernel
theorem dX11_most_65 : decode cX11_most 65 = .ok (.bipush 6, 2) := by decide +kernel
theorem dX11_most_67 : decode cX11_most 67 = .ok (.if_icmp .ge 11, 3) := by decide +kernel
theorem dX11_most_70 : decode cX11_most 70 = .ok (.aload_n 0, 1) := by decide +kernel
theorem dX11_most_71 : decode cX11_most 71 = .ok (.iload_n 1, 1) := by decide +kernel
theorem dX11_most_72 : decode cX11_most 72 = .ok (.invokevirtual 386, 3) := by decide +kernel
theorem dX11_most_75 : decode cX11_most 75 = .ok (.goto 8, 3) := by decide +kernel
theorem dX11_most_78 : decode cX11_most 78 = .ok (.aload_n 0, 1) := by decide +kernel
theorem dX11_most_79 : decode cX11_most 79 = .ok (.iload_n 1, 1) := by decide +kernel
theorem dX11_most_80 : decode cX11_most 80 = .ok (.invokevirtual 389, 3) := by decide +kernel
theorem dX11_most_83 : decode cX11_most 83 = .ok (.ireturn, 1) := by decide +kernel
set_option maxRecDepth 20000 in
def kX11_most_0 (g : sk_G) (d ck sk : Nat) (Q : sk_P) : sk_K := o_aload 0 (o_getf 11 1 (o_invT (g, d, ck, sk, xX11_most, Q) 1 0 7 (fun Q => kX7_isSkin_0 g (d - 1) 0 0 Q) (o_ifeq (o_i (-1) (o_iret (g, d, ck, sk, xX11_most, Q))) (o_iload 1 (o_iflt (o_i (-1) (o_iret (g, d, ck, sk, xX11_most, Q))) (o_iload 1 (o_i (9) (o_icle (o_iload 1 (o_ifne (o_iload 1 (o_i (1) (o_icne (o_iload 1 (o_i (5) (o_icne (sk_B (g, d, ck, sk, xX11_most, Q) 64) (o_aload 0 (o_getf 11 4 (o_invB (g, d, ck, sk, xX11_most, Q) xX5_layersInAll 0 5 0 0 (o_ifne (sk_B (g, d, ck, sk, xX11_most, Q) 64) (o_i (-1) (o_iret (g, d, ck, sk, xX11_most, Q)))))))))) (o_aload 0 (o_getf 11 4 (o_invB (g, d, ck, sk, xX11_most, Q) xX5_strengthInAll 0 5 0 0 (o_iret (g, d, ck, sk, xX11_most, Q)))))))) (o_aload 0 (o_getf 11 4 (o_invB (g, d, ck, sk, xX11_most, Q) xX5_layersInAll 0 5 0 0 (o_iret (g, d, ck, sk, xX11_most, Q))))))) (o_i (-1) (o_iret (g, d, ck, sk, xX11_most, Q)))))))))))
set_option maxRecDepth 20000 in
theorem tX11_most_0 {g : sk_G} {d ck sk : Nat} {Q : sk_P} : sk_S (g, d, ck, sk, xX11_most, Q) 0 (kX11_most_0 g d ck sk Q) := s_aload_n dX11_most_0 rfl (s_getf (ci := 11) (j := 1) (C := RX11) (T := TX11) (N := 17) dX11_most_1 rfl (by decide) (by decide) qf_X11_19 (s_invT (X := xX7_isSkin) (ci := 7) (T := TX7) (N := 4) (K := (fun Q => kX7_isSkin_0 g (d - 1) 0 0 Q)) (fun _ => tX7_isSkin_0) rfl dX11_most_4 m_X7_isSkin rfl (by decide) qm_X11_141 qi_X7_isSkin qe_X7_isSkin (s_ifeq (tgt := 20) dX11_most_7 (by decide) (s_iconst dX11_most_20 (s_iret dX11_most_21 rfl)) (s_iload_n dX11_most_10 rfl (s_iflt (tgt := 20) dX11_most_11 (by decide) (s_iconst dX11_most_20 (s_iret dX11_most_21 rfl)) (s_iload_n dX11_most_14 rfl (s_bipush dX11_most_15 rfl (s_icle (tgt := 22) dX11_most_17 (by decide) (s_iload_n dX11_most_22 rfl (s_ifne (tgt := 34) dX11_most_23 (by decide) (s_iload_n dX11_most_34 rfl (s_iconst dX11_most_35 (s_icne (tgt := 47) dX11_most_36 (by decide) (s_iload_n dX11_most_47 rfl (s_iconst dX11_most_48 (s_icne (tgt := 64) dX11_most_49 (by decide) (sk_id) (s_aload_n dX11_most_52 rfl (s_getf (ci := 11) (j := 4) (C := RX11) (T := TX11) (N := 17) dX11_most_53 rfl (by decide) (by decide) qf_X11_36 (s_invB (w' := (g, d, ck, sk, xX11_most, Q)) (ci := 5) (ck := 0) (sk := 0) (T := TX5) (N := 6) dX11_most_56 m_X5_layersInAll rfl (by decide) qm_X11_220 qi_X5_layersInAll qe_X5_layersInAll rfl (s_ifne (tgt := 64) dX11_most_59 (by decide) (sk_id) (s_iconst dX11_most_62 (s_iret dX11_most_63 rfl))))))))) (s_aload_n dX11_most_39 rfl (s_getf (ci := 11) (j := 4) (C := RX11) (T := TX11) (N := 17) dX11_most_40 rfl (by decide) (by decide) qf_X11_36 (s_invB (w' := (g, d, ck, sk, xX11_most, Q)) (ci := 5) (ck := 0) (sk := 0) (T := TX5) (N := 6) dX11_most_43 m_X5_strengthInAll rfl (by decide) qm_X11_383 qi_X5_strengthInAll qe_X5_strengthInAll rfl (s_iret dX11_most_46 rfl))))))) (s_aload_n dX11_most_26 rfl (s_getf (ci := 11) (j := 4) (C := RX11) (T := TX11) (N := 17) dX11_most_27 rfl (by decide) (by decide) qf_X11_36 (s_invB (w' := (g, d, ck, sk, xX11_most, Q)) (ci := 5) (ck := 0) (sk := 0) (T := TX5) (N := 6) dX11_most_30 m_X5_layersInAll rfl (by decide) qm_X11_220 qi_X5_layersInAll qe_X5_layersInAll rfl (s_iret dX11_most_33 rfl)))))) (s_iconst dX11_most_20 (s_iret dX11_most_21 rfl))))))))))
set_option maxRecDepth 20000 in
def kX11_most_64 (g : sk_G) (d ck sk : Nat) (Q : sk_P) : sk_K := o_iload 1 (o_i (6) (o_icge (o_aload 0 (o_iload 1 (o_invB (g, d, ck, sk, xX11_most, Q) xX11_cellsThat 1 11 0 0 (o_iret (g, d, ck, sk, xX11_most, Q))))) (o_aload 0 (o_iload 1 (o_invB (g, d, ck, sk, xX11_most, Q) xX11_fullestBy 1 11 0 0 (o_iret (g, d, ck, sk, xX11_most, Q)))))))
set_option maxRecDepth 20000 in
theorem tX11_most_64 {g : sk_G} {d ck sk : Nat} {Q : sk_P} : sk_S (g, d, ck, sk, xX11_most, Q) 64 (kX11_most_64 g d ck sk Q) := s_iload_n dX11_most_64 rfl (s_bipush dX11_most_65 rfl (s_icge (tgt := 78) dX11_most_67 (by decide) (s_aload_n dX11_most_78 rfl (s_iload_n dX11_most_79 rfl (s_invB (w' := (g, d, ck, sk, xX11_most, Q)) (ci := 11) (ck := 0) (sk := 0) (T := TX11) (N := 17) dX11_most_80 m_X11_cellsThat rfl (by decide) qm_X11_389 qi_X11_cellsThat qe_X11_cellsThat rfl (s_iret dX11_most_83 rfl)))) (s_aload_n dX11_most_70 rfl (s_iload_n dX11_most_71 rfl (s_invB (w' := (g, d, ck, sk, xX11_most, Q)) (ci := 11) (ck := 0) (sk := 0) (T := TX11) (N := 17) dX11_most_72 m_X11_fullestBy rfl (by decide) qm_X11_386 qi_X11_fullestBy qe_X11_fullestBy rfl (s_goto (tgt := 83) dX11_most_75 (by decide) (s_iret dX11_most_83 rfl)))))))
theorem dX11_fullestBy_0 : decode cX11_fullestBy 0 = .ok (.iload_n 1, 1) := by decide +kernel
theorem dX11_fullestBy_1 : decode cX11_fullestBy 1 = .ok (.iconst 2, 1) := by decide +kernel
theorem dX11_fullestBy_2 : decode cX11_fullestBy 2 = .ok (.if_icmp .ne 13, 3) := by decide +kernel
theorem dX11_fullestBy_5 : decode cX11_fullestBy 5 = .ok (.aload_n 0, 1) := by decide +kernel
theorem dX11_fullestBy_6 : decode cX11_fullestBy 6 = .ok (.getfield 19, 3) := by decide +kernel
theorem dX11_fullestBy_9 : decode cX11_fullestBy 9 = .ok (.invokevirtual 400, 3) := by decide +kernel
theorem dX11_fullestBy_12 : decode cX11_fullestBy 12 = .ok (.goto 35, 3) := by decide +kernel
theorem dX11_fullestBy_15 : decode cX11_fullestBy 15 = .ok (.iload_n 1, 1) := by decide +kernel
theorem dX11_fullestBy_16 : decode cX11_fullestBy 16 = .ok (.iconst 3, 1) := by decide +kernel
theorem dX11_fullestBy_17 : decode cX11_fullestBy 17 = .ok (.if_icmp .ne 13, 3) := by decide +kernel
theorem dX11_fullestBy_20 : decode cX11_fullestBy 20 = .ok (.aload_n 0, 1) := by decide +kernel
theorem dX11_fullestBy_21 : decode cX11_fullestBy 21 = .ok (.getfield 19, 3) := by decide +kernel
theorem dX11_fullestBy_24 : decode cX11_fullestBy 24 = .ok (.invokevirtual 473, 3) := by decide +kernel
theorem dX11_fullestBy_27 : decode cX11_fullestBy 27 = .ok (.goto 20, 3) := by decide +kernel
theorem dX11_fullestBy_30 : decode cX11_fullestBy 30 = .ok (.iload_n 1, 1) := by decide +kernel
theorem dX11_fullestBy_31 : decode cX11_fullestBy 31 = .ok (.iconst 4, 1) := by decide +kernel
theorem dX11_fullestBy_32 : decode cX11_fullestBy 32 = .ok (.if_icmp .ne 13, 3) := by decide +kernel
theorem dX11_fullestBy_35 : decode cX11_fullestBy 35 = .ok (.aload_n 0, 1) := by decide +kernel
theorem dX11_fullestBy_36 : decode cX11_fullestBy 36 = .ok (.getfield 19, 3) := by decide +kernel
theorem dX11_fullestBy_39 : decode cX11_fullestBy 39 = .ok (.getfield 285, 3) := by decide +kernel
theorem dX11_fullestBy_42 : decode cX11_fullestBy 42 = .ok (.goto 5, 3) := by decide +kernel
theorem dX11_fullestBy_45 : decode cX11_fullestBy 45 = .ok (.bipush 26, 2) := by decide +kernel
theorem dX11_fullestBy_47 : decode cX11_fullestBy 47 = .ok (.istore_n 2, 1) := by decide +kernel
theorem dX11_fullestBy_48 : decode cX11_fullestBy 48 = .ok (.aload_n 0, 1) := by decide +kernel
theorem dX11_fullestBy_49 : decode cX11_fullestBy 49 = .ok (.getfield 82, 3) := by decide +kernel
theorem dX11_fullestBy_52 : decode cX11_fullestBy 52 = .ok (.iconst 0, 1) := by decide +kernel
theorem dX11_fullestBy_53 : decode cX11_fullestBy 53 = .ok (.invokestatic 348, 3) := by decide +kernel
theorem dX11_fullestBy_56 : decode cX11_fullestBy 56 = .ok (.iconst 0, 1) := by decide +kernel
theorem dX11_fullestBy_57 : decode cX11_fullestBy 57 = .ok (.istore_n 3, 1) := by decide +kernel
theorem dX11_fullestBy_58 : decode cX11_fullestBy 58 = .ok (.iload_n 3, 1) := by decide +kernel
theorem dX11_fullestBy_59 : decode cX11_fullestBy 59 = .ok (.aload_n 0, 1) := by decide +kernel
theorem dX11_fullestBy_60 : decode cX11_fullestBy 60 = .ok (.getfield 19, 3) := by decide +kernel
theorem dX11_fullestBy_63 : decode cX11_fullestBy 63 = .ok (.invokevirtual 400, 3) := by decide +kernel
theorem dX11_fullestBy_66 : decode cX11_fullestBy 66 = .ok (.if_icmp .ge 100, 3) := by decide +kernel
theorem dX11_fullestBy_69 : decode cX11_fullestBy 69 = .ok (.iconst 0, 1) := by decide +kernel
theorem dX11_fullestBy_70 : decode cX11_fullestBy 70 = .ok (.istore 4, 2) := by decide +kernel
theorem dX11_fullestBy_72 : decode cX11_fullestBy 72 = .ok (.iload 4, 2) := by decide +kernel
theorem dX11_fullestBy_74 : decode cX11_fullestBy 74 = .ok (.aload_n 0, 1) := by decide +kernel
theorem dX11_fullestBy_75 : decode cX11_fullestBy 75 = .ok (.getfield 36, 3) := by decide +kernel
theorem dX11_fullestBy_78 : decode cX11_fullestBy 78 = .ok (.getfield 181, 3) := by decide +kernel
theorem dX11_fullestBy_81 : decode cX11_fullestBy 81 = .ok (.iload_n 3, 1) := by decide +kernel
theorem dX11_fullestBy_82 : decode cX11_fullestBy 82 = .ok (.iaload, 1) := by decide +kernel
theorem dX11_fullestBy_83 : decode cX11_fullestBy 83 = .ok (.if_icmp .ge 77, 3) := by decide +kernel
theorem dX11_fullestBy_86 : decode cX11_fullestBy 86 = .ok (.aload_n 0, 1) := by decide +kernel
theorem dX11_fullestBy_87 : decode cX11_fullestBy 87 = .ok (.getfield 36, 3) := by decide +kernel
theorem dX11_fullestBy_90 : decode cX11_fullestBy 90 = .ok (.iload_n 3, 1) := by decide +kernel
theorem dX11_fullestBy_91 : decode cX11_fullestBy 91 = .ok (.iload 4, 2) := by decide +kernel
theorem dX11_fullestBy_93 : decode cX11_fullestBy 93 = .ok (.invokevirtual 184, 3) := by decide +kernel
theorem dX11_fullestBy_96 : decode cX11_fullestBy 96 = .ok (.istore 5, 2) := by decide +kernel
theorem dX11_fullestBy_98 : decode cX11_fullestBy 98 = .ok (.iload_n 1, 1) := by decide +kernel
theorem dX11_fullestBy_99 : decode cX11_fullestBy 99 = .ok (.iconst 2, 1) := by decide +kernel
theorem dX11_fullestBy_100 : decode cX11_fullestBy 100 = .ok (.if_icmp .ne 7, 3) := by decide +kernel
theorem dX11_fullestBy_103 : decode cX11_fullestBy 103 = .ok (.iload_n 3, 1) := by decide +kernel
theorem dX11_fullestBy_104 : decode cX11_fullestBy 104 = .ok (.goto 37, 3) := by decide +kernel
theorem dX11_fullestBy_107 : decode cX11_fullestBy 107 = .ok (.iload_n 1, 1) := by decide +kernel
theorem dX11_fullestBy_108 : decode cX11_fullestBy 108 = .ok (.iconst 3, 1) := by decide +kernel
theorem dX11_fullestBy_109 : decode cX11_fullestBy 109 = .ok (.if_icmp .ne 14, 3) := by decide +kernel
theorem dX11_fullestBy_112 : decode cX11_fullestBy 112 = .ok (.aload_n 0, 1) := by decide +kernel
theorem dX11_fullestBy_113 : decode cX11_fullestBy 113 = .ok (.getfield 19, 3) := by decide +kernel
theorem dX11_fullestBy_116 : decode cX11_fullestBy 116 = .ok (.iload_n 3, 1) := by decide +kernel
theorem dX11_fullestBy_117 : decode cX11_fullestBy 117 = .ok (.invokevirtual 322, 3) := by decide +kernel
theorem dX11_fullestBy_120 : decode cX11_fullestBy 120 = .ok (.goto 21, 3) := by decide +kernel
theorem dX11_fullestBy_123 : decode cX11_fullestBy 123 = .ok (.iload_n 1, 1) := by decide +kernel
theorem dX11_fullestBy_124 : decode cX11_fullestBy 124 = .ok (.iconst 4, 1) := by decide +kernel
theorem dX11_fullestBy_125 : decode cX11_fullestBy 125 = .ok (.if_icmp .ne 11, 3) := by decide +kernel
theorem dX11_fullestBy_128 : decode cX11_fullestBy 128 = .ok (.iload 5, 2) := by decide +kernel
theorem dX11_fullestBy_130 : decode cX11_fullestBy 130 = .ok (.invokestatic 190, 3) := by decide +kernel
theorem dX11_fullestBy_133 : decode cX11_fullestBy 133 = .ok (.goto 8, 3) := by decide +kernel
theorem dX11_fullestBy_136 : decode cX11_fullestBy 136 = .ok (.iload 5, 2) := by decide +kernel
theorem dX11_fullestBy_138 : decode cX11_fullestBy 138 = .ok (.invokestatic 187, 3) := by decide +kernel
theorem dX11_fullestBy_141 : decode cX11_fullestBy 141 = .ok (.istore 6, 2) := by decide +kernel
theorem dX11_fullestBy_143 : decode cX11_fullestBy 143 = .ok (.aload_n 0, 1) := by decide +kernel
theorem dX11_fullestBy_144 : decode cX11_fullestBy 144 = .ok (.getfield 82, 3) := by decide +kernel
theorem dX11_fullestBy_147 : decode cX11_fullestBy 147 = .ok (.iload 6, 2) := by decide +kernel
theorem dX11_fullestBy_149 : decode cX11_fullestBy 149 = .ok (.dup2, 1) := by decide +kernel
theorem dX11_fullestBy_150 : decode cX11_fullestBy 150 = .ok (.iaload, 1) := by decide +kernel
theorem dX11_fullestBy_151 : decode cX11_fullestBy 151 = .ok (.iconst 1, 1) := by decide +kernel
theorem dX11_fullestBy_152 : decode cX11_fullestBy 152 = .ok (.iadd, 1) := by decide +kernel
theorem dX11_fullestBy_153 : decode cX11_fullestBy 153 = .ok (.iastore, 1) := by decide +kernel
theorem dX11_fullestBy_154 : decode cX11_fullestBy 154 = .ok (.iinc 4 1, 3) := by decide +kernel
theorem dX11_fullestBy_157 : decode cX11_fullestBy 157 = .ok (.goto (-85), 3) := by decide +kernel
theorem dX11_fullestBy_160 : decode cX11_fullestBy 160 = .ok (.iinc 3 1, 3) := by decide +kernel
theorem dX11_fullestBy_163 : decode cX11_fullestBy 163 = .ok (.goto (-105), 3) := by decide +kernel
theorem dX11_fullestBy_166 : decode cX11_fullestBy 166 = .ok (.iconst 0, 1) := by decide +kernel
theorem dX11_fullestBy_167 : decode cX11_fullestBy 167 = .ok (.istore_n 3, 1) := by decide +kernel
theorem dX11_fullestBy_168 : decode cX11_fullestBy 168 = .ok (.iconst 1, 1) := by decide +kernel
theorem dX11_fullestBy_169 : decode cX11_fullestBy 169 = .ok (.istore 4, 2) := by decide +kernel
theorem dX11_fullestBy_171 : decode cX11_fullestBy 171 = .ok (.iload 4, 2) := by decide +kernel
theorem dX11_fullestBy_173 : decode cX11_fullestBy 173 = .ok (.iload_n 2, 1) := by decide +kernel
theorem dX11_fullestBy_174 : decode cX11_fullestBy 174 = .ok (.if_icmp .ge 28, 3) := by decide +kernel
theorem dX11_fullestBy_177 : decode cX11_fullestBy 177 = .ok (.aload_n 0, 1) := by decide +kernel
theorem dX11_fullestBy_178 : decode cX11_fullestBy 178 = .ok (.getfield 82, 3) := by decide +kernel
theorem dX11_fullestBy_181 : decode cX11_fullestBy 181 = .ok (.iload 4, 2) := by decide +kernel
theorem dX11_fullestBy_183 : decode cX11_fullestBy 183 = .ok (.iaload, 1) := by decide +kernel
theorem dX11_fullestBy_184 : decode cX11_fullestBy 184 = .ok (.aload_n 0, 1) := by decide +kernel
theorem dX11_fullestBy_185 : decode cX11_fullestBy 185 = .ok (.getfield 82, 3) := by decide +kernel
theorem dX11_fullestBy_188 : decode cX11_fullestBy 188 = .ok (.iload_n 3, 1) := by decide +kernel
theorem dX11_fullestBy_189 : decode cX11_fullestBy 189 = .ok (.iaload, 1) := by decide +kernel
theorem dX11_fullestBy_190 : decode cX11_fullestBy 190 = .ok (.if_icmp .le 6, 3) := by decide +kernel
theorem dX11_fullestBy_193 : decode cX11_fullestBy 193 = .ok (.iload 4, 2) := by decide +kernel
theorem dX11_fullestBy_195 : decode cX11_fullestBy 195 = .ok (.istore_n 3, 1) := by decide +kernel
theorem dX11_fullestBy_196 : decode cX11_fullestBy 196 = .ok (.iinc 4 1, 3) := by decide +kernel
theorem dX11_fullestBy_199 : decode cX11_fullestBy 199 = .ok (.goto (-28), 3) := by decide +kernel
theorem dX11_fullestBy_202 : decode cX11_fullestBy 202 = .ok (.iload_n 3, 1) := by decide +kernel
theorem dX11_fullestBy_203 : decode cX11_fullestBy 203 = .ok (.ireturn, 1) := by decide +kernel
set_option maxRecDepth 20000 in
def kX11_fullestBy_0 (g : sk_G) (d ck sk : Nat) (Q : sk_P) : sk_K := o_iload 1 (o_i (2) (o_icne (o_iload 1 (o_i (3) (o_icne (o_iload 1 (o_i (4) (o_icne (o_i (26) (sk_B (g, d, ck, sk, xX11_fullestBy, Q) 47)) (o_aload 0 (o_getf 11 1 (o_getf 7 2 (sk_B (g, d, ck, sk, xX11_fullestBy, Q) 47))))))) (o_aload 0 (o_getf 11 1 (o_invT (g, d, ck, sk, xX11_fullestBy, Q) 1 0 7 (fun Q => kX7_rows_0 g (d - 1) 0 0 Q) (sk_B (g, d, ck, sk, xX11_fullestBy, Q) 47))))))) (o_aload 0 (o_getf 11 1 (o_invT (g, d, ck, sk, xX11_fullestBy, Q) 1 0 7 (fun Q => kX7_cells_0 g (d - 1) 0 0 Q) (sk_B (g, d, ck, sk, xX11_fullestBy, Q) 47))))))
set_option maxRecDepth 20000 in
theorem tX11_fullestBy_0 {g : sk_G} {d ck sk : Nat} {Q : sk_P} : sk_S (g, d, ck, sk, xX11_fullestBy, Q) 0 (kX11_fullestBy_0 g d ck sk Q) := s_iload_n dX11_fullestBy_0 rfl (s_iconst dX11_fullestBy_1 (s_icne (tgt := 15) dX11_fullestBy_2 (by decide) (s_iload_n dX11_fullestBy_15 rfl (s_iconst dX11_fullestBy_16 (s_icne (tgt := 30) dX11_fullestBy_17 (by decide) (s_iload_n dX11_fullestBy_30 rfl (s_iconst dX11_fullestBy_31 (s_icne (tgt := 45) dX11_fullestBy_32 (by decide) (s_bipush dX11_fullestBy_45 rfl (sk_id)) (s_aload_n dX11_fullestBy_35 rfl (s_getf (ci := 11) (j := 1) (C := RX11) (T := TX11) (N := 17) dX11_fullestBy_36 rfl (by decide) (by decide) qf_X11_19 (s_getfN (ci := 7) (j := 2) (C := RX7) (T := TX7) (N := 4) dX11_fullestBy_39 rfl (by decide) (by decide) qn_X11_285 (s_goto (tgt := 47) dX11_fullestBy_42 (by decide) (sk_id)))))))) (s_aload_n dX11_fullestBy_20 rfl (s_getf (ci := 11) (j := 1) (C := RX11) (T := TX11) (N := 17) dX11_fullestBy_21 rfl (by decide) (by decide) qf_X11_19 (s_invT (X := xX7_rows) (ci := 7) (T := TX7) (N := 4) (K := (fun Q => kX7_rows_0 g (d - 1) 0 0 Q)) (fun _ => tX7_rows_0) rfl dX11_fullestBy_24 m_X7_rows rfl (by decide) qm_X11_473 qi_X7_rows qe_X7_rows (s_goto (tgt := 47) dX11_fullestBy_27 (by decide) (sk_id)))))))) (s_aload_n dX11_fullestBy_5 rfl (s_getf (ci := 11) (j := 1) (C := RX11) (T := TX11) (N := 17) dX11_fullestBy_6 rfl (by decide) (by decide) qf_X11_19 (s_invT (X := xX7_cells) (ci := 7) (T := TX7) (N := 4) (K := (fun Q => kX7_cells_0 g (d - 1) 0 0 Q)) (fun _ => tX7_cells_0) rfl dX11_fullestBy_9 m_X7_cells rfl (by decide) qm_X11_400 qi_X7_cells qe_X7_cells (s_goto (tgt := 47) dX11_fullestBy_12 (by decide) (sk_id)))))))
def kX11_fullestBy_47 (g : sk_G) (d ck sk : Nat) (Q : sk_P) : sk_K := o_istore 2 (o_aload 0 (o_getf 11 12 (o_i (0) (o_stcB (g, d, ck, sk, xX11_fullestBy, Q) xJ7_fill_53178 2 0 0 (o_i (0) (o_istore 3 (sk_B (g, d, ck, sk, xX11_fullestBy, Q) 58)))))))
theorem tX11_fullestBy_47 {g : sk_G} {d ck sk : Nat} {Q : sk_P} : sk_S (g, d, ck, sk, xX11_fullestBy, Q) 47 (kX11_fullestBy_47 g d ck sk Q) := s_istore_n dX11_fullestBy_47 rfl (by decide : 2 < 7) (s_aload_n dX11_fullestBy_48 rfl (s_getf (ci := 11) (j := 12) (C := RX11) (T := TX11) (N := 17) dX11_fullestBy_49 rfl (by decide) (by decide) qf_X11_82 (s_iconst dX11_fullestBy_52 (s_stcB (w' := (g, d, ck, sk, xX11_fullestBy, Q)) (ck := 0) (sk := 0) dX11_fullestBy_53 m_J7_fill_53178 qm_X11_348 qs_J7_fill_53178 rfl (s_iconst dX11_fullestBy_56 (s_istore_n dX11_fullestBy_57 rfl (by decide : 3 < 7) (sk_id)))))))
set_option maxRecDepth 20000 in
def kX11_fullestBy_58 (g : sk_G) (d ck sk : Nat) (Q : sk_P) : sk_K := o_iload 3 (o_aload 0 (o_getf 11 1 (o_invT (g, d, ck, sk, xX11_fullestBy, Q) 1 0 7 (fun Q => kX7_cells_0 g (d - 1) 0 0 Q) (o_icge (o_i (0) (o_istore 3 (o_i (1) (o_istore 4 (sk_B (g, d, ck, sk, xX11_fullestBy, Q) 171))))) (o_i (0) (o_istore 4 (sk_B (g, d, ck, sk, xX11_fullestBy, Q) 72)))))))
set_option maxRecDepth 20000 in
theorem tX11_fullestBy_58 {g : sk_G} {d ck sk : Nat} {Q : sk_P} : sk_S (g, d, ck, sk, xX11_fullestBy, Q) 58 (kX11_fullestBy_58 g d ck sk Q) := s_iload_n dX11_fullestBy_58 rfl (s_aload_n dX11_fullestBy_59 rfl (s_getf (ci := 11) (j := 1) (C := RX11) (T := TX11) (N := 17) dX11_fullestBy_60 rfl (by decide) (by decide) qf_X11_19 (s_invT (X := xX7_cells) (ci := 7) (T := TX7) (N := 4) (K := (fun Q => kX7_cells_0 g (d - 1) 0 0 Q)) (fun _ => tX7_cells_0) rfl dX11_fullestBy_63 m_X7_cells rfl (by decide) qm_X11_400 qi_X7_cells qe_X7_cells (s_icge (tgt := 166) dX11_fullestBy_66 (by decide) (s_iconst dX11_fullestBy_166 (s_istore_n dX11_fullestBy_167 rfl (by decide : 3 < 7) (s_iconst dX11_fullestBy_168 (s_istore dX11_fullestBy_169 (by decide : 4 < 7) (sk_id))))) (s_iconst dX11_fullestBy_69 (s_istore dX11_fullestBy_70 (by decide : 4 < 7) (sk_id)))))))
set_option maxRecDepth 20000 in
def kX11_fullestBy_72 (g : sk_G) (d ck sk : Nat) (Q : sk_P) : sk_K := o_iload 4 (o_aload 0 (o_getf 11 4 (o_getf 5 1 (o_iload 3 (o_iaload (o_icge (o_iinc 3 (1) (sk_B (g, d, ck, sk, xX11_fullestBy, Q) 58)) (o_aload 0 (o_getf 11 4 (o_iload 3 (o_iload 4 (o_invT (g, d, ck, sk, xX11_fullestBy, Q) 3 2 5 (fun Q => kX5_codeAt_0 g (d - 1) 0 0 Q) (o_istore 5 (o_iload 1 (o_i (2) (o_icne (o_iload 1 (o_i (3) (o_icne (o_iload 1 (o_i (4) (o_icne (o_iload 5 (o_stcT (g, d, ck, sk, xX11_fullestBy, Q) 1 1 (fun Q => kX5_letterIn_0 g (d - 1) 0 0 Q) (sk_B (g, d, ck, sk, xX11_fullestBy, Q) 141))) (o_iload 5 (o_stcT (g, d, ck, sk, xX11_fullestBy, Q) 1 1 (fun Q => kX5_handIn_0 g (d - 1) 0 0 Q) (sk_B (g, d, ck, sk, xX11_fullestBy, Q) 141)))))) (o_aload 0 (o_getf 11 1 (o_iload 3 (o_invT (g, d, ck, sk, xX11_fullestBy, Q) 2 1 7 (fun Q => kX7_rowOf_0 g (d - 1) 0 0 Q) (sk_B (g, d, ck, sk, xX11_fullestBy, Q) 141)))))))) (o_iload 3 (sk_B (g, d, ck, sk, xX11_fullestBy, Q) 141)))))))))))))))))
set_option maxRecDepth 20000 in
theorem tX11_fullestBy_72 {g : sk_G} {d ck sk : Nat} {Q : sk_P} : sk_S (g, d, ck, sk, xX11_fullestBy, Q) 72 (kX11_fullestBy_72 g d ck sk Q) := s_iload dX11_fullestBy_72 (s_aload_n dX11_fullestBy_74 rfl (s_getf (ci := 11) (j := 4) (C := RX11) (T := TX11) (N := 17) dX11_fullestBy_75 rfl (by decide) (by decide) qf_X11_36 (s_getfN (ci := 5) (j := 1) (C := RX5) (T := TX5) (N := 6) dX11_fullestBy_78 rfl (by decide) (by decide) qn_X11_181 (s_iload_n dX11_fullestBy_81 rfl (s_iaload dX11_fullestBy_82 (s_icge (tgt := 160) dX11_fullestBy_83 (by decide) (s_iinc dX11_fullestBy_160 (by decide : 3 < 7) (s_goto (tgt := 58) dX11_fullestBy_163 (by decide) (sk_id))) (s_aload_n dX11_fullestBy_86 rfl (s_getf (ci := 11) (j := 4) (C := RX11) (T := TX11) (N := 17) dX11_fullestBy_87 rfl (by decide) (by decide) qf_X11_36 (s_iload_n dX11_fullestBy_90 rfl (s_iload dX11_fullestBy_91 (s_invT (X := xX5_codeAt) (ci := 5) (T := TX5) (N := 6) (K := (fun Q => kX5_codeAt_0 g (d - 1) 0 0 Q)) (fun _ => tX5_codeAt_0) rfl dX11_fullestBy_93 m_X5_codeAt rfl (by decide) qm_X11_184 qi_X5_codeAt qe_X5_codeAt (s_istore dX11_fullestBy_96 (by decide : 5 < 7) (s_iload_n dX11_fullestBy_98 rfl (s_iconst dX11_fullestBy_99 (s_icne (tgt := 107) dX11_fullestBy_100 (by decide) (s_iload_n dX11_fullestBy_107 rfl (s_iconst dX11_fullestBy_108 (s_icne (tgt := 123) dX11_fullestBy_109 (by decide) (s_iload_n dX11_fullestBy_123 rfl (s_iconst dX11_fullestBy_124 (s_icne (tgt := 136) dX11_fullestBy_125 (by decide) (s_iload dX11_fullestBy_136 (s_stcT (X := xX5_letterIn) (K := (fun Q => kX5_letterIn_0 g (d - 1) 0 0 Q)) (fun _ => tX5_letterIn_0) rfl dX11_fullestBy_138 m_X5_letterIn qm_X11_187 qs_X5_letterIn (sk_id))) (s_iload dX11_fullestBy_128 (s_stcT (X := xX5_handIn) (K := (fun Q => kX5_handIn_0 g (d - 1) 0 0 Q)) (fun _ => tX5_handIn_0) rfl dX11_fullestBy_130 m_X5_handIn qm_X11_190 qs_X5_handIn (s_goto (tgt := 141) dX11_fullestBy_133 (by decide) (sk_id))))))) (s_aload_n dX11_fullestBy_112 rfl (s_getf (ci := 11) (j := 1) (C := RX11) (T := TX11) (N := 17) dX11_fullestBy_113 rfl (by decide) (by decide) qf_X11_19 (s_iload_n dX11_fullestBy_116 rfl (s_invT (X := xX7_rowOf) (ci := 7) (T := TX7) (N := 4) (K := (fun Q => kX7_rowOf_0 g (d - 1) 0 0 Q)) (fun _ => tX7_rowOf_0) rfl dX11_fullestBy_117 m_X7_rowOf rfl (by decide) qm_X11_322 qi_X7_rowOf qe_X7_rowOf (s_goto (tgt := 141) dX11_fullestBy_120 (by decide) (sk_id))))))))) (s_iload_n dX11_fullestBy_103 rfl (s_goto (tgt := 141) dX11_fullestBy_104 (by decide) (sk_id))))))))))))))))))
def kX11_fullestBy_141 (g : sk_G) (d ck sk : Nat) (Q : sk_P) : sk_K := o_istore 6 (o_aload 0 (o_getf 11 12 (o_iload 6 (o_dup2 (o_iaload (o_i (1) (o_iadd (o_iastore (o_iinc 4 (1) (sk_B (g, d, ck, sk, xX11_fullestBy, Q) 72))))))))))
theorem tX11_fullestBy_141 {g : sk_G} {d ck sk : Nat} {Q : sk_P} : sk_S (g, d, ck, sk, xX11_fullestBy, Q) 141 (kX11_fullestBy_141 g d ck sk Q) := s_istore dX11_fullestBy_141 (by decide : 6 < 7) (s_aload_n dX11_fullestBy_143 rfl (s_getf (ci := 11) (j := 12) (C := RX11) (T := TX11) (N := 17) dX11_fullestBy_144 rfl (by decide) (by decide) qf_X11_82 (s_iload dX11_fullestBy_147 (s_dup2 dX11_fullestBy_149 (s_iaload dX11_fullestBy_150 (s_iconst dX11_fullestBy_151 (s_iadd dX11_fullestBy_152 (s_iastore dX11_fullestBy_153 (s_iinc dX11_fullestBy_154 (by decide : 4 < 7) (s_goto (tgt := 72) dX11_fullestBy_157 (by decide) (sk_id)))))))))))
set_option maxRecDepth 20000 in
def kX11_fullestBy_171 (g : sk_G) (d ck sk : Nat) (Q : sk_P) : sk_K := o_iload 4 (o_iload 2 (o_icge (o_iload 3 (o_iret (g, d, ck, sk, xX11_fullestBy, Q))) (o_aload 0 (o_getf 11 12 (o_iload 4 (o_iaload (o_aload 0 (o_getf 11 12 (o_iload 3 (o_iaload (o_icle (o_iinc 4 (1) (sk_B (g, d, ck, sk, xX11_fullestBy, Q) 171)) (o_iload 4 (o_istore 3 (o_iinc 4 (1) (sk_B (g, d, ck, sk, xX11_fullestBy, Q) 171)))))))))))))))
set_option maxRecDepth 20000 in
theorem tX11_fullestBy_171 {g : sk_G} {d ck sk : Nat} {Q : sk_P} : sk_S (g, d, ck, sk, xX11_fullestBy, Q) 171 (kX11_fullestBy_171 g d ck sk Q) := s_iload dX11_fullestBy_171 (s_iload_n dX11_fullestBy_173 rfl (s_icge (tgt := 202) dX11_fullestBy_174 (by decide) (s_iload_n dX11_fullestBy_202 rfl (s_iret dX11_fullestBy_203 rfl)) (s_aload_n dX11_fullestBy_177 rfl (s_getf (ci := 11) (j := 12) (C := RX11) (T := TX11) (N := 17) dX11_fullestBy_178 rfl (by decide) (by decide) qf_X11_82 (s_iload dX11_fullestBy_181 (s_iaload dX11_fullestBy_183 (s_aload_n dX11_fullestBy_184 rfl (s_getf (ci := 11) (j := 12) (C := RX11) (T := TX11) (N := 17) dX11_fullestBy_185 rfl (by decide) (by decide) qf_X11_82 (s_iload_n dX11_fullestBy_188 rfl (s_iaload dX11_fullestBy_189 (s_icle (tgt := 196) dX11_fullestBy_190 (by decide) (s_iinc dX11_fullestBy_196 (by decide : 4 < 7) (s_goto (tgt := 171) dX11_fullestBy_199 (by decide) (sk_id))) (s_iload dX11_fullestBy_193 (s_istore_n dX11_fullestBy_195 rfl (by decide : 3 < 7) (s_iinc dX11_fullestBy_196 (by decide : 4 < 7) (s_goto (tgt := 171) dX11_fullestBy_199 (by decide) (sk_id))))))))))))))))
theorem dX11_image_0 : decode cX11_image 0 = .ok (.aload_n 0, 1) := by decide +kernel
theorem dX11_image_1 : decode cX11_image 1 = .ok (.getfield 19, 3) := by decide +kernel
theorem dX11_image_4 : decode cX11_image 4 = .ok (.invokevirtual 141, 3) := by decide +kernel
theorem dX11_image_7 : decode cX11_image 7 = .ok (.ifCond .ne 5, 3) := by decide +kernel
theorem dX11_image_10 : decode cX11_image 10 = .ok (.iconst (-1), 1) := by decide +kernel
theorem dX11_image_11 : decode cX11_image 11 = .ok (.ireturn, 1) := by decide +kernel
theorem dX11_image_12 : decode cX11_image 12 = .ok (.aload_n 0, 1) := by decide +kernel
theorem dX11_image_13 : decode cX11_image 13 = .ok (.getfield 53, 3) := by decide +kernel
theorem dX11_image_16 : decode cX11_image 16 = .ok (.aload_n 0, 1) := by decide +kernel
theorem dX11_image_17 : decode cX11_image 17 = .ok (.getfield 36, 3) := by decide +kernel
theorem dX11_image_20 : decode cX11_image 20 = .ok (.aload_n 0, 1) := by decide +kernel
theorem dX11_image_21 : decode cX11_image 21 = .ok (.getfield 46, 3) := by decide +kernel
theorem dX11_image_24 : decode cX11_image 24 = .ok (.invokevirtual 392, 3) := by decide +kernel
theorem dX11_image_27 : decode cX11_image 27 = .ok (.aload_n 0, 1) := by decide +kernel
theorem dX11_image_28 : decode cX11_image 28 = .ok (.getfield 36, 3) := by decide +kernel
theorem dX11_image_31 : decode cX11_image 31 = .ok (.getfield 233, 3) := by decide +kernel
theorem dX11_image_34 : decode cX11_image 34 = .ok (.ireturn, 1) := by decide +kernel
set_option maxRecDepth 20000 in
def kX11_image_0 (g : sk_G) (d ck sk : Nat) (Q : sk_P) : sk_K := o_aload 0 (o_getf 11 1 (o_invT (g, d, ck, sk, xX11_image, Q) 1 0 7 (fun Q => kX7_isSkin_0 g (d - 1) 0 0 Q) (o_ifne (o_aload 0 (o_getf 11 7 (o_aload 0 (o_getf 11 4 (o_aload 0 (o_getf 11 6 (o_invB (g, d, ck, sk, xX11_image, Q) xX0_takeImage 2 0 0 0 (o_aload 0 (o_getf 11 4 (o_getf 5 3 (o_iret (g, d, ck, sk, xX11_image, Q)))))))))))) (o_i (-1) (o_iret (g, d, ck, sk, xX11_image, Q))))))
set_option maxRecDepth 20000 in
theorem tX11_image_0 {g : sk_G} {d ck sk : Nat} {Q : sk_P} : sk_S (g, d, ck, sk, xX11_image, Q) 0 (kX11_image_0 g d ck sk Q) := s_aload_n dX11_image_0 rfl (s_getf (ci := 11) (j := 1) (C := RX11) (T := TX11) (N := 17) dX11_image_1 rfl (by decide) (by decide) qf_X11_19 (s_invT (X := xX7_isSkin) (ci := 7) (T := TX7) (N := 4) (K := (fun Q => kX7_isSkin_0 g (d - 1) 0 0 Q)) (fun _ => tX7_isSkin_0) rfl dX11_image_4 m_X7_isSkin rfl (by decide) qm_X11_141 qi_X7_isSkin qe_X7_isSkin (s_ifne (tgt := 12) dX11_image_7 (by decide) (s_aload_n dX11_image_12 rfl (s_getf (ci := 11) (j := 7) (C := RX11) (T := TX11) (N := 17) dX11_image_13 rfl (by decide) (by decide) qf_X11_53 (s_aload_n dX11_image_16 rfl (s_getf (ci := 11) (j := 4) (C := RX11) (T := TX11) (N := 17) dX11_image_17 rfl (by decide) (by decide) qf_X11_36 (s_aload_n dX11_image_20 rfl (s_getf (ci := 11) (j := 6) (C := RX11) (T := TX11) (N := 17) dX11_image_21 rfl (by decide) (by decide) qf_X11_46 (s_invB (w' := (g, d, ck, sk, xX11_image, Q)) (ci := 0) (ck := 0) (sk := 0) (T := TX0) (N := 6) dX11_image_24 m_X0_takeImage rfl (by decide) qm_X11_392 qi_X0_takeImage qe_X0_takeImage rfl (s_aload_n dX11_image_27 rfl (s_getf (ci := 11) (j := 4) (C := RX11) (T := TX11) (N := 17) dX11_image_28 rfl (by decide) (by decide) qf_X11_36 (s_getfN (ci := 5) (j := 3) (C := RX5) (T := TX5) (N := 6) dX11_image_31 rfl (by decide) (by decide) qn_X11_233 (s_iret dX11_image_34 rfl))))))))))) (s_iconst dX11_image_10 (s_iret dX11_image_11 rfl)))))
theorem dX11_back_0 : decode cX11_back 0 = .ok (.aload_n 0, 1) := by decide +kernel
theorem dX11_back_1 : decode cX11_back 1 = .ok (.getfield 53, 3) := by decide +kernel
theorem dX11_back_4 : decode cX11_back 4 = .ok (.aload_n 0, 1) := by decide +kernel
theorem dX11_back_5 : decode cX11_back 5 = .ok (.getfield 36, 3) := by decide +kernel
theorem dX11_back_8 : decode cX11_back 8 = .ok (.aload_n 0, 1) := by decide +kernel
theorem dX11_back_9 : decode cX11_back 9 = .ok (.getfield 46, 3) := by decide +kernel
theorem dX11_back_12 : decode cX11_back 12 = .ok (.invokevirtual 396, 3) := by decide +kernel
theorem dX11_back_15 : decode cX11_back 15 = .ok (.ifCond .eq 13, 3) := by decide +kernel
theorem dX11_back_18 : decode cX11_back 18 = .ok (.aload_n 0, 1) := by decide +kernel
theorem dX11_back_19 : decode cX11_back 19 = .ok (.getfield 36, 3) := by decide +kernel
theorem dX11_back_22 : decode cX11_back 22 = .ok (.getfield 233, 3) := by decide +kernel
theorem dX11_back_25 : decode cX11_back 25 = .ok (.goto 4, 3) := by decide +kernel
theorem dX11_back_28 : decode cX11_back 28 = .ok (.iconst (-1), 1) := by decide +kernel
theorem dX11_back_29 : decode cX11_back 29 = .ok (.ireturn, 1) := by decide +kernel
set_option maxRecDepth 20000 in
def kX11_back_0 (g : sk_G) (d ck sk : Nat) (Q : sk_P) : sk_K := o_aload 0 (o_getf 11 7 (o_aload 0 (o_getf 11 4 (o_aload 0 (o_getf 11 6 (o_invB (g, d, ck, sk, xX11_back, Q) xX0_goBack 2 0 0 0 (o_ifeq (o_i (-1) (o_iret (g, d, ck, sk, xX11_back, Q))) (o_aload 0 (o_getf 11 4 (o_getf 5 3 (o_iret (g, d, ck, sk, xX11_back, Q))))))))))))
set_option maxRecDepth 20000 in
theorem tX11_back_0 {g : sk_G} {d ck sk : Nat} {Q : sk_P} : sk_S (g, d, ck, sk, xX11_back, Q) 0 (kX11_back_0 g d ck sk Q) := s_aload_n dX11_back_0 rfl (s_getf (ci := 11) (j := 7) (C := RX11) (T := TX11) (N := 17) dX11_back_1 rfl (by decide) (by decide) qf_X11_53 (s_aload_n dX11_back_4 rfl (s_getf (ci := 11) (j := 4) (C := RX11) (T := TX11) (N := 17) dX11_back_5 rfl (by decide) (by decide) qf_X11_36 (s_aload_n dX11_back_8 rfl (s_getf (ci := 11) (j := 6) (C := RX11) (T := TX11) (N := 17) dX11_back_9 rfl (by decide) (by decide) qf_X11_46 (s_invB (w' := (g, d, ck, sk, xX11_back, Q)) (ci := 0) (ck := 0) (sk := 0) (T := TX0) (N := 6) dX11_back_12 m_X0_goBack rfl (by decide) qm_X11_396 qi_X0_goBack qe_X0_goBack rfl (s_ifeq (tgt := 28) dX11_back_15 (by decide) (s_iconst dX11_back_28 (s_iret dX11_back_29 rfl)) (s_aload_n dX11_back_18 rfl (s_getf (ci := 11) (j := 4) (C := RX11) (T := TX11) (N := 17) dX11_back_19 rfl (by decide) (by decide) qf_X11_36 (s_getfN (ci := 5) (j := 3) (C := RX5) (T := TX5) (N := 6) dX11_back_22 rfl (by decide) (by decide) qn_X11_233 (s_goto (tgt := 29) dX11_back_25 (by decide) (s_iret dX11_back_29 rfl))))))))))))
theorem dX11_count_0 : decode cX11_count 0 = .ok (.iload_n 1, 1) := by decide +kernel
theorem dX11_count_1 : decode cX11_count 1 = .ok (.tableswitch 144 0 10 #[59, 67, 75, 83, 91, 99, 107, 115, 120, 128, 136], 59) := by decide +kernel
theorem dX11_count_60 : decode cX11_count 60 = .ok (.aload_n 0, 1) := by decide +kernel
theorem dX11_count_61 : decode cX11_count 61 = .ok (.getfield 19, 3) := by decide +kernel
theorem dX11_count_64 : decode cX11_count 64 = .ok (.invokevirtual 400, 3) := by decide +kernel
theorem dX11_count_67 : decode cX11_count 67 = .ok (.ireturn, 1) := by decide +kernel
theorem dX11_count_68 : decode cX11_count 68 = .ok (.aload_n 0, 1) := by decide +kernel
theorem dX11_count_69 : decode cX11_count 69 = .ok (.getfield 19, 3) := by decide +kernel
theorem dX11_count_72 : decode cX11_count 72 = .ok (.getfield 285, 3) := by decide +kernel
theorem dX11_count_75 : decode cX11_count 75 = .ok (.ireturn, 1) := by decide +kernel
theorem dX11_count_76 : decode cX11_count 76 = .ok (.aload_n 0, 1) := by decide +kernel
theorem dX11_count_77 : decode cX11_count 77 = .ok (.getfield 29, 3) := by decide +kernel
theorem dX11_count_80 : decode cX11_count 80 = .ok (.getfield 403, 3) := by decide +kernel
theorem dX11_count_83 : decode cX11_count 83 = .ok (.ireturn, 1) := by decide +kernel
theorem dX11_count_84 : decode cX11_count 84 = .ok (.aload_n 0, 1) := by decide +kernel
theorem dX11_count_85 : decode cX11_count 85 = .ok (.getfield 29, 3) := by decide +kernel
theorem dX11_count_88 : decode cX11_count 88 = .ok (.getfield 342, 3) := by decide +kernel
theorem dX11_count_91 : decode cX11_count 91 = .ok (.ireturn, 1) := by decide +kernel
theorem dX11_count_92 : decode cX11_count 92 = .ok (.aload_n 0, 1) := by decide +kernel
theorem dX11_count_93 : decode cX11_count 93 = .ok (.getfield 10, 3) := by decide +kernel
theorem dX11_count_96 : decode cX11_count 96 = .ok (.getfield 406, 3) := by decide +kernel
theorem dX11_count_99 : decode cX11_count 99 = .ok (.ireturn, 1) := by decide +kernel
theorem dX11_count_100 : decode cX11_count 100 = .ok (.aload_n 0, 1) := by decide +kernel
theorem dX11_count_101 : decode cX11_count 101 = .ok (.getfield 29, 3) := by decide +kernel
theorem dX11_count_104 : decode cX11_count 104 = .ok (.getfield 409, 3) := by decide +kernel
theorem dX11_count_107 : decode cX11_count 107 = .ok (.ireturn, 1) := by decide +kernel
theorem dX11_count_108 : decode cX11_count 108 = .ok (.aload_n 0, 1) := by decide +kernel
theorem dX11_count_109 : decode cX11_count 109 = .ok (.getfield 36, 3) := by decide +kernel
theorem dX11_count_112 : decode cX11_count 112 = .ok (.getfield 233, 3) := by decide +kernel
theorem dX11_count_115 : decode cX11_count 115 = .ok (.ireturn, 1) := by decide +kernel
theorem dX11_count_116 : decode cX11_count 116 = .ok (.aload_n 0, 1) := by decide +kernel
theorem dX11_count_117 : decode cX11_count 117 = .ok (.getfield 91, 3) := by decide +kernel
theorem dX11_count_120 : decode cX11_count 120 = .ok (.ireturn, 1) := by decide +kernel
theorem dX11_count_121 : decode cX11_count 121 = .ok (.aload_n 0, 1) := by decide +kernel
theorem dX11_count_122 : decode cX11_count 122 = .ok (.getfield 60, 3) := by decide +kernel
theorem dX11_count_125 : decode cX11_count 125 = .ok (.getfield 412, 3) := by decide +kernel
theorem dX11_count_128 : decode cX11_count 128 = .ok (.ireturn, 1) := by decide +kernel
theorem dX11_count_129 : decode cX11_count 129 = .ok (.aload_n 0, 1) := by decide +kernel
theorem dX11_count_130 : decode cX11_count 130 = .ok (.getfield 36, 3) := by decide +kernel
theorem dX11_count_133 : decode cX11_count 133 = .ok (.getfield 253, 3) := by decide +kernel
theorem dX11_count_136 : decode cX11_count 136 = .ok (.ireturn, 1) := by decide +kernel
theorem dX11_count_137 : decode cX11_count 137 = .ok (.aload_n 0, 1) := by decide +kernel
theorem dX11_count_138 : decode cX11_count 138 = .ok (.getfield 53, 3) := by decide +kernel
theorem dX11_count_141 : decode cX11_count 141 = .ok (.getfield 413, 3) := by decide +kernel
theorem dX11_count_144 : decode cX11_count 144 = .ok (.ireturn, 1) := by decide +kernel
theorem dX11_count_145 : decode cX11_count 145 = .ok (.ldc_w 368, 3) := by decide +kernel
theorem dX11_count_148 : decode cX11_count 148 = .ok (.ireturn, 1) := by decide +kernel
set_option maxRecDepth 20000 in
def kX11_count_0 (g : sk_G) (d ck sk : Nat) (Q : sk_P) : sk_K := o_iload 1 (o_tsw (0) [o_aload 0 (o_getf 11 1 (o_invT (g, d, ck, sk, xX11_count, Q) 1 0 7 (fun Q => kX7_cells_0 g (d - 1) 0 0 Q) (o_iret (g, d, ck, sk, xX11_count, Q)))), o_aload 0 (o_getf 11 1 (o_getf 7 2 (o_iret (g, d, ck, sk, xX11_count, Q)))), o_aload 0 (o_getf 11 3 (o_getf 8 4 (o_iret (g, d, ck, sk, xX11_count, Q)))), o_aload 0 (o_getf 11 3 (o_getf 8 5 (o_iret (g, d, ck, sk, xX11_count, Q)))), o_aload 0 (o_getf 11 0 (o_getf 9 1 (o_iret (g, d, ck, sk, xX11_count, Q)))), o_aload 0 (o_getf 11 3 (o_getf 8 6 (o_iret (g, d, ck, sk, xX11_count, Q)))), o_aload 0 (o_getf 11 4 (o_getf 5 3 (o_iret (g, d, ck, sk, xX11_count, Q)))), o_aload 0 (o_getf 11 15 (o_iret (g, d, ck, sk, xX11_count, Q))), o_aload 0 (o_getf 11 8 (o_getf 4 3 (o_iret (g, d, ck, sk, xX11_count, Q)))), o_aload 0 (o_getf 11 4 (o_getf 5 5 (o_iret (g, d, ck, sk, xX11_count, Q)))), o_aload 0 (o_getf 11 7 (o_getf 0 2 (o_iret (g, d, ck, sk, xX11_count, Q))))] (o_i (-1000000) (o_iret (g, d, ck, sk, xX11_count, Q))))
set_option maxRecDepth 20000 in
theorem tX11_count_0 {g : sk_G} {d ck sk : Nat} {Q : sk_P} : sk_S (g, d, ck, sk, xX11_count, Q) 0 (kX11_count_0 g d ck sk Q) := s_iload_n dX11_count_0 rfl (s_tsw (td := 145) (tg := [60, 68, 76, 84, 92, 100, 108, 116, 121, 129, 137]) (n := 11) dX11_count_1 rfl (by decide) (by decide) (by decide) (s_ldcw dX11_count_145 qk_X11_368 rfl (s_iret dX11_count_148 rfl)) (fun i off h => by
    match i, h with
    | 0, h => cases h; exact ⟨60, rfl, by decide⟩
    | 1, h => cases h; exact ⟨68, rfl, by decide⟩
    | 2, h => cases h; exact ⟨76, rfl, by decide⟩
    | 3, h => cases h; exact ⟨84, rfl, by decide⟩
    | 4, h => cases h; exact ⟨92, rfl, by decide⟩
    | 5, h => cases h; exact ⟨100, rfl, by decide⟩
    | 6, h => cases h; exact ⟨108, rfl, by decide⟩
    | 7, h => cases h; exact ⟨116, rfl, by decide⟩
    | 8, h => cases h; exact ⟨121, rfl, by decide⟩
    | 9, h => cases h; exact ⟨129, rfl, by decide⟩
    | 10, h => cases h; exact ⟨137, rfl, by decide⟩
    | i + 11, h => simp at h) (fun i a t hi ht => by
    match i, hi, ht with
    | 0, hi, ht => cases hi; cases ht; exact s_aload_n dX11_count_60 rfl (s_getf (ci := 11) (j := 1) (C := RX11) (T := TX11) (N := 17) dX11_count_61 rfl (by decide) (by decide) qf_X11_19 (s_invT (X := xX7_cells) (ci := 7) (T := TX7) (N := 4) (K := (fun Q => kX7_cells_0 g (d - 1) 0 0 Q)) (fun _ => tX7_cells_0) rfl dX11_count_64 m_X7_cells rfl (by decide) qm_X11_400 qi_X7_cells qe_X7_cells (s_iret dX11_count_67 rfl)))
    | 1, hi, ht => cases hi; cases ht; exact s_aload_n dX11_count_68 rfl (s_getf (ci := 11) (j := 1) (C := RX11) (T := TX11) (N := 17) dX11_count_69 rfl (by decide) (by decide) qf_X11_19 (s_getfN (ci := 7) (j := 2) (C := RX7) (T := TX7) (N := 4) dX11_count_72 rfl (by decide) (by decide) qn_X11_285 (s_iret dX11_count_75 rfl)))
    | 2, hi, ht => cases hi; cases ht; exact s_aload_n dX11_count_76 rfl (s_getf (ci := 11) (j := 3) (C := RX11) (T := TX11) (N := 17) dX11_count_77 rfl (by decide) (by decide) qf_X11_29 (s_getfN (ci := 8) (j := 4) (C := RX8) (T := TX8) (N := 7) dX11_count_80 rfl (by decide) (by decide) qn_X11_403 (s_iret dX11_count_83 rfl)))
    | 3, hi, ht => cases hi; cases ht; exact s_aload_n dX11_count_84 rfl (s_getf (ci := 11) (j := 3) (C := RX11) (T := TX11) (N := 17) dX11_count_85 rfl (by decide) (by decide) qf_X11_29 (s_getfN (ci := 8) (j := 5) (C := RX8) (T := TX8) (N := 7) dX11_count_88 rfl (by decide) (by decide) qn_X11_342 (s_iret dX11_count_91 rfl)))
    | 4, hi, ht => cases hi; cases ht; exact s_aload_n dX11_count_92 rfl (s_getf (ci := 11) (j := 0) (C := RX11) (T := TX11) (N := 17) dX11_count_93 rfl (by decide) (by decide) qf_X11_10 (s_getfN (ci := 9) (j := 1) (C := RX9) (T := TX9) (N := 3) dX11_count_96 rfl (by decide) (by decide) qn_X11_406 (s_iret dX11_count_99 rfl)))
    | 5, hi, ht => cases hi; cases ht; exact s_aload_n dX11_count_100 rfl (s_getf (ci := 11) (j := 3) (C := RX11) (T := TX11) (N := 17) dX11_count_101 rfl (by decide) (by decide) qf_X11_29 (s_getfN (ci := 8) (j := 6) (C := RX8) (T := TX8) (N := 7) dX11_count_104 rfl (by decide) (by decide) qn_X11_409 (s_iret dX11_count_107 rfl)))
    | 6, hi, ht => cases hi; cases ht; exact s_aload_n dX11_count_108 rfl (s_getf (ci := 11) (j := 4) (C := RX11) (T := TX11) (N := 17) dX11_count_109 rfl (by decide) (by decide) qf_X11_36 (s_getfN (ci := 5) (j := 3) (C := RX5) (T := TX5) (N := 6) dX11_count_112 rfl (by decide) (by decide) qn_X11_233 (s_iret dX11_count_115 rfl)))
    | 7, hi, ht => cases hi; cases ht; exact s_aload_n dX11_count_116 rfl (s_getf (ci := 11) (j := 15) (C := RX11) (T := TX11) (N := 17) dX11_count_117 rfl (by decide) (by decide) qf_X11_91 (s_iret dX11_count_120 rfl))
    | 8, hi, ht => cases hi; cases ht; exact s_aload_n dX11_count_121 rfl (s_getf (ci := 11) (j := 8) (C := RX11) (T := TX11) (N := 17) dX11_count_122 rfl (by decide) (by decide) qf_X11_60 (s_getfN (ci := 4) (j := 3) (C := RX4) (T := TX4) (N := 4) dX11_count_125 rfl (by decide) (by decide) qn_X11_412 (s_iret dX11_count_128 rfl)))
    | 9, hi, ht => cases hi; cases ht; exact s_aload_n dX11_count_129 rfl (s_getf (ci := 11) (j := 4) (C := RX11) (T := TX11) (N := 17) dX11_count_130 rfl (by decide) (by decide) qf_X11_36 (s_getfN (ci := 5) (j := 5) (C := RX5) (T := TX5) (N := 6) dX11_count_133 rfl (by decide) (by decide) qn_X11_253 (s_iret dX11_count_136 rfl)))
    | 10, hi, ht => cases hi; cases ht; exact s_aload_n dX11_count_137 rfl (s_getf (ci := 11) (j := 7) (C := RX11) (T := TX11) (N := 17) dX11_count_138 rfl (by decide) (by decide) qf_X11_53 (s_getfN (ci := 0) (j := 2) (C := RX0) (T := TX0) (N := 6) dX11_count_141 rfl (by decide) (by decide) qn_X11_413 (s_iret dX11_count_144 rfl)))
    | i + 11, hi, ht => simp at hi))
