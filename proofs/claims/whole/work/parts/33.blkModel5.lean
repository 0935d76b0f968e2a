theorem dX12_game_0 : decode cX12_game 0 = .ok (.aload_n 0, 1) := by decide +kernel
theorem dX12_game_1 : decode cX12_game 1 = .ok (.iload_n 1, 1) := by decide +kernel
theorem dX12_game_2 : decode cX12_game 2 = .ok (.invokevirtual 376, 3) := by decide +kernel
theorem dX12_game_5 : decode cX12_game 5 = .ok (.ifCond .eq 43, 3) := by decide +kernel
theorem dX12_game_8 : decode cX12_game 8 = .ok (.iload_n 2, 1) := by decide +kernel
theorem dX12_game_9 : decode cX12_game 9 = .ok (.iconst 0, 1) := by decide +kernel
theorem dX12_game_10 : decode cX12_game 10 = .ok (.iconst 3, 1) := by decide +kernel
theorem dX12_game_11 : decode cX12_game 11 = .ok (.invokestatic 224, 3) := by decide +kernel
theorem dX12_game_14 : decode cX12_game 14 = .ok (.ifCond .eq 34, 3) := by decide +kernel
theorem dX12_game_17 : decode cX12_game 17 = .ok (.iload_n 3, 1) := by decide +kernel
theorem dX12_game_18 : decode cX12_game 18 = .ok (.iconst 0, 1) := by decide +kernel
theorem dX12_game_19 : decode cX12_game 19 = .ok (.iconst 2, 1) := by decide +kernel
theorem dX12_game_20 : decode cX12_game 20 = .ok (.invokestatic 224, 3) := by decide +kernel
theorem dX12_game_23 : decode cX12_game 23 = .ok (.ifCond .eq 25, 3) := by decide +kernel
theorem dX12_game_26 : decode cX12_game 26 = .ok (.iload 4, 2) := by decide +kernel
theorem dX12_game_28 : decode cX12_game 28 = .ok (.iconst 0, 1) := by decide +kernel
theorem dX12_game_29 : decode cX12_game 29 = .ok (.iconst 1, 1) := by decide +kernel
theorem dX12_game_30 : decode cX12_game 30 = .ok (.invokestatic 224, 3) := by decide +kernel
theorem dX12_game_33 : decode cX12_game 33 = .ok (.ifCond .eq 15, 3) := by decide +kernel
theorem dX12_game_36 : decode cX12_game 36 = .ok (.aload_n 0, 1) := by decide +kernel
theorem dX12_game_37 : decode cX12_game 37 = .ok (.iload_n 1, 1) := by decide +kernel
theorem dX12_game_38 : decode cX12_game 38 = .ok (.iload_n 2, 1) := by decide +kernel
theorem dX12_game_39 : decode cX12_game 39 = .ok (.iload_n 3, 1) := by decide +kernel
theorem dX12_game_40 : decode cX12_game 40 = .ok (.iload 4, 2) := by decide +kernel
theorem dX12_game_42 : decode cX12_game 42 = .ok (.invokevirtual 470, 3) := by decide +kernel
theorem dX12_game_45 : decode cX12_game 45 = .ok (.goto 6, 3) := by decide +kernel
theorem dX12_game_48 : decode cX12_game 48 = .ok (.ldc_w 473, 3) := by decide +kernel
theorem dX12_game_51 : decode cX12_game 51 = .ok (.ireturn, 1) := by decide +kernel
set_option maxRecDepth 20000 in
def kX12_game_0 (g : sk_G) (d ck sk : Nat) (Q : sk_P) : sk_K := o_aload 0 (o_iload 1 (o_invT (g, d, ck, sk, xX12_game, Q) 2 1 12 (fun Q => kX12_isRow_0 g (d - 1) 0 0 Q) (o_ifeq (o_i (-1000000) (o_iret (g, d, ck, sk, xX12_game, Q))) (o_iload 2 (o_i (0) (o_i (3) (o_stcT (g, d, ck, sk, xX12_game, Q) 3 3 (fun Q => kX12_in_0 g (d - 1) 0 0 Q) (o_ifeq (o_i (-1000000) (o_iret (g, d, ck, sk, xX12_game, Q))) (o_iload 3 (o_i (0) (o_i (2) (o_stcT (g, d, ck, sk, xX12_game, Q) 3 3 (fun Q => kX12_in_0 g (d - 1) 0 0 Q) (o_ifeq (o_i (-1000000) (o_iret (g, d, ck, sk, xX12_game, Q))) (o_iload 4 (o_i (0) (o_i (1) (o_stcT (g, d, ck, sk, xX12_game, Q) 3 3 (fun Q => kX12_in_0 g (d - 1) 0 0 Q) (o_ifeq (o_i (-1000000) (o_iret (g, d, ck, sk, xX12_game, Q))) (o_aload 0 (o_iload 1 (o_iload 2 (o_iload 3 (o_iload 4 (o_invB (g, d, ck, sk, xX12_game, Q) xX12_gameOf 4 12 0 0 (o_iret (g, d, ck, sk, xX12_game, Q))))))))))))))))))))))))))
set_option maxRecDepth 20000 in
theorem tX12_game_0 {g : sk_G} {d ck sk : Nat} {Q : sk_P} : sk_S (g, d, ck, sk, xX12_game, Q) 0 (kX12_game_0 g d ck sk Q) := s_aload_n dX12_game_0 rfl (s_iload_n dX12_game_1 rfl (s_invT (X := xX12_isRow) (ci := 12) (T := TX12) (N := 49) (K := (fun Q => kX12_isRow_0 g (d - 1) 0 0 Q)) (fun _ => tX12_isRow_0) rfl dX12_game_2 m_X12_isRow rfl (by decide) qm_X12_376 qi_X12_isRow qe_X12_isRow (s_ifeq (tgt := 48) dX12_game_5 (by decide) (s_ldcw dX12_game_48 qk_X12_473 rfl (s_iret dX12_game_51 rfl)) (s_iload_n dX12_game_8 rfl (s_iconst dX12_game_9 (s_iconst dX12_game_10 (s_stcT (X := xX12_in) (K := (fun Q => kX12_in_0 g (d - 1) 0 0 Q)) (fun _ => tX12_in_0) rfl dX12_game_11 m_X12_in qm_X12_224 qs_X12_in (s_ifeq (tgt := 48) dX12_game_14 (by decide) (s_ldcw dX12_game_48 qk_X12_473 rfl (s_iret dX12_game_51 rfl)) (s_iload_n dX12_game_17 rfl (s_iconst dX12_game_18 (s_iconst dX12_game_19 (s_stcT (X := xX12_in) (K := (fun Q => kX12_in_0 g (d - 1) 0 0 Q)) (fun _ => tX12_in_0) rfl dX12_game_20 m_X12_in qm_X12_224 qs_X12_in (s_ifeq (tgt := 48) dX12_game_23 (by decide) (s_ldcw dX12_game_48 qk_X12_473 rfl (s_iret dX12_game_51 rfl)) (s_iload dX12_game_26 (s_iconst dX12_game_28 (s_iconst dX12_game_29 (s_stcT (X := xX12_in) (K := (fun Q => kX12_in_0 g (d - 1) 0 0 Q)) (fun _ => tX12_in_0) rfl dX12_game_30 m_X12_in qm_X12_224 qs_X12_in (s_ifeq (tgt := 48) dX12_game_33 (by decide) (s_ldcw dX12_game_48 qk_X12_473 rfl (s_iret dX12_game_51 rfl)) (s_aload_n dX12_game_36 rfl (s_iload_n dX12_game_37 rfl (s_iload_n dX12_game_38 rfl (s_iload_n dX12_game_39 rfl (s_iload dX12_game_40 (s_invB (w' := (g, d, ck, sk, xX12_game, Q)) (ci := 12) (ck := 0) (sk := 0) (T := TX12) (N := 49) dX12_game_42 m_X12_gameOf rfl (by decide) qm_X12_470 qi_X12_gameOf qe_X12_gameOf rfl (s_goto (tgt := 51) dX12_game_45 (by decide) (s_iret dX12_game_51 rfl))))))))))))))))))))))))))
theorem dX12_gameOf_0 : decode cX12_gameOf 0 = .ok (.aload_n 0, 1) := by decide +kernel
theorem dX12_gameOf_1 : decode cX12_gameOf 1 = .ok (.iload_n 1, 1) := by decide +kernel
theorem dX12_gameOf_2 : decode cX12_gameOf 2 = .ok (.invokevirtual 464, 3) := by decide +kernel
theorem dX12_gameOf_5 : decode cX12_gameOf 5 = .ok (.istore 5, 2) := by decide +kernel
theorem dX12_gameOf_7 : decode cX12_gameOf 7 = .ok (.aload_n 0, 1) := by decide +kernel
theorem dX12_gameOf_8 : decode cX12_gameOf 8 = .ok (.invokevirtual 429, 3) := by decide +kernel
theorem dX12_gameOf_11 : decode cX12_gameOf 11 = .ok (.aload_n 0, 1) := by decide +kernel
theorem dX12_gameOf_12 : decode cX12_gameOf 12 = .ok (.iload_n 1, 1) := by decide +kernel
theorem dX12_gameOf_13 : decode cX12_gameOf 13 = .ok (.iload_n 2, 1) := by decide +kernel
theorem dX12_gameOf_14 : decode cX12_gameOf 14 = .ok (.invokevirtual 382, 3) := by decide +kernel
theorem dX12_gameOf_17 : decode cX12_gameOf 17 = .ok (.pop, 1) := by decide +kernel
theorem dX12_gameOf_18 : decode cX12_gameOf 18 = .ok (.iload 4, 2) := by decide +kernel
theorem dX12_gameOf_20 : decode cX12_gameOf 20 = .ok (.ifCond .ne 18, 3) := by decide +kernel
theorem dX12_gameOf_23 : decode cX12_gameOf 23 = .ok (.iconst 2, 1) := by decide +kernel
theorem dX12_gameOf_24 : decode cX12_gameOf 24 = .ok (.iload 5, 2) := by decide +kernel
theorem dX12_gameOf_26 : decode cX12_gameOf 26 = .ok (.aload_n 0, 1) := by decide +kernel
theorem dX12_gameOf_27 : decode cX12_gameOf 27 = .ok (.iload_n 1, 1) := by decide +kernel
theorem dX12_gameOf_28 : decode cX12_gameOf 28 = .ok (.invokevirtual 464, 3) := by decide +kernel
theorem dX12_gameOf_31 : decode cX12_gameOf 31 = .ok (.isub, 1) := by decide +kernel
theorem dX12_gameOf_32 : decode cX12_gameOf 32 = .ok (.imul, 1) := by decide +kernel
theorem dX12_gameOf_33 : decode cX12_gameOf 33 = .ok (.iload_n 2, 1) := by decide +kernel
theorem dX12_gameOf_34 : decode cX12_gameOf 34 = .ok (.isub, 1) := by decide +kernel
theorem dX12_gameOf_35 : decode cX12_gameOf 35 = .ok (.goto 9, 3) := by decide +kernel
theorem dX12_gameOf_38 : decode cX12_gameOf 38 = .ok (.aload_n 0, 1) := by decide +kernel
theorem dX12_gameOf_39 : decode cX12_gameOf 39 = .ok (.iload_n 1, 1) := by decide +kernel
theorem dX12_gameOf_40 : decode cX12_gameOf 40 = .ok (.iload_n 3, 1) := by decide +kernel
theorem dX12_gameOf_41 : decode cX12_gameOf 41 = .ok (.invokevirtual 467, 3) := by decide +kernel
theorem dX12_gameOf_44 : decode cX12_gameOf 44 = .ok (.istore 6, 2) := by decide +kernel
theorem dX12_gameOf_46 : decode cX12_gameOf 46 = .ok (.aload_n 0, 1) := by decide +kernel
theorem dX12_gameOf_47 : decode cX12_gameOf 47 = .ok (.invokevirtual 435, 3) := by decide +kernel
theorem dX12_gameOf_50 : decode cX12_gameOf 50 = .ok (.iload 6, 2) := by decide +kernel
theorem dX12_gameOf_52 : decode cX12_gameOf 52 = .ok (.ireturn, 1) := by decide +kernel
set_option maxRecDepth 20000 in
def kX12_gameOf_0 (g : sk_G) (d ck sk : Nat) (Q : sk_P) : sk_K := o_aload 0 (o_iload 1 (o_invB (g, d, ck, sk, xX12_gameOf, Q) xX12_legibleIn 1 12 0 0 (o_istore 5 (o_aload 0 (o_invB (g, d, ck, sk, xX12_gameOf, Q) xX12_putAside 0 12 0 0 (o_aload 0 (o_iload 1 (o_iload 2 (o_invB (g, d, ck, sk, xX12_gameOf, Q) xX12_scrapeNow 2 12 0 0 (o_pop (o_iload 4 (o_ifne (o_aload 0 (o_iload 1 (o_iload 3 (o_invB (g, d, ck, sk, xX12_gameOf, Q) xX12_readIn 2 12 0 0 (o_istore 6 (o_aload 0 (o_invB (g, d, ck, sk, xX12_gameOf, Q) xX12_takeBack 0 12 0 0 (o_iload 6 (o_iret (g, d, ck, sk, xX12_gameOf, Q)))))))))) (o_i (2) (o_iload 5 (o_aload 0 (o_iload 1 (o_invB (g, d, ck, sk, xX12_gameOf, Q) xX12_legibleIn 1 12 0 0 (o_isub (o_imul (o_iload 2 (o_isub (o_istore 6 (o_aload 0 (o_invB (g, d, ck, sk, xX12_gameOf, Q) xX12_takeBack 0 12 0 0 (o_iload 6 (o_iret (g, d, ck, sk, xX12_gameOf, Q)))))))))))))))))))))))))))
set_option maxRecDepth 20000 in
theorem tX12_gameOf_0 {g : sk_G} {d ck sk : Nat} {Q : sk_P} : sk_S (g, d, ck, sk, xX12_gameOf, Q) 0 (kX12_gameOf_0 g d ck sk Q) := s_aload_n dX12_gameOf_0 rfl (s_iload_n dX12_gameOf_1 rfl (s_invB (w' := (g, d, ck, sk, xX12_gameOf, Q)) (ci := 12) (ck := 0) (sk := 0) (T := TX12) (N := 49) dX12_gameOf_2 m_X12_legibleIn rfl (by decide) qm_X12_464 qi_X12_legibleIn qe_X12_legibleIn rfl (s_istore dX12_gameOf_5 (by decide : 5 < 7) (s_aload_n dX12_gameOf_7 rfl (s_invB (w' := (g, d, ck, sk, xX12_gameOf, Q)) (ci := 12) (ck := 0) (sk := 0) (T := TX12) (N := 49) dX12_gameOf_8 m_X12_putAside rfl (by decide) qm_X12_429 qi_X12_putAside qe_X12_putAside rfl (s_aload_n dX12_gameOf_11 rfl (s_iload_n dX12_gameOf_12 rfl (s_iload_n dX12_gameOf_13 rfl (s_invB (w' := (g, d, ck, sk, xX12_gameOf, Q)) (ci := 12) (ck := 0) (sk := 0) (T := TX12) (N := 49) dX12_gameOf_14 m_X12_scrapeNow rfl (by decide) qm_X12_382 qi_X12_scrapeNow qe_X12_scrapeNow rfl (s_pop dX12_gameOf_17 (s_iload dX12_gameOf_18 (s_ifne (tgt := 38) dX12_gameOf_20 (by decide) (s_aload_n dX12_gameOf_38 rfl (s_iload_n dX12_gameOf_39 rfl (s_iload_n dX12_gameOf_40 rfl (s_invB (w' := (g, d, ck, sk, xX12_gameOf, Q)) (ci := 12) (ck := 0) (sk := 0) (T := TX12) (N := 49) dX12_gameOf_41 m_X12_readIn rfl (by decide) qm_X12_467 qi_X12_readIn qe_X12_readIn rfl (s_istore dX12_gameOf_44 (by decide : 6 < 7) (s_aload_n dX12_gameOf_46 rfl (s_invB (w' := (g, d, ck, sk, xX12_gameOf, Q)) (ci := 12) (ck := 0) (sk := 0) (T := TX12) (N := 49) dX12_gameOf_47 m_X12_takeBack rfl (by decide) qm_X12_435 qi_X12_takeBack qe_X12_takeBack rfl (s_iload dX12_gameOf_50 (s_iret dX12_gameOf_52 rfl))))))))) (s_iconst dX12_gameOf_23 (s_iload dX12_gameOf_24 (s_aload_n dX12_gameOf_26 rfl (s_iload_n dX12_gameOf_27 rfl (s_invB (w' := (g, d, ck, sk, xX12_gameOf, Q)) (ci := 12) (ck := 0) (sk := 0) (T := TX12) (N := 49) dX12_gameOf_28 m_X12_legibleIn rfl (by decide) qm_X12_464 qi_X12_legibleIn qe_X12_legibleIn rfl (s_isub dX12_gameOf_31 (s_imul dX12_gameOf_32 (s_iload_n dX12_gameOf_33 rfl (s_isub dX12_gameOf_34 (s_goto (tgt := 44) dX12_gameOf_35 (by decide) (s_istore dX12_gameOf_44 (by decide : 6 < 7) (s_aload_n dX12_gameOf_46 rfl (s_invB (w' := (g, d, ck, sk, xX12_gameOf, Q)) (ci := 12) (ck := 0) (sk := 0) (T := TX12) (N := 49) dX12_gameOf_47 m_X12_takeBack rfl (by decide) qm_X12_435 qi_X12_takeBack qe_X12_takeBack rfl (s_iload dX12_gameOf_50 (s_iret dX12_gameOf_52 rfl)))))))))))))))))))))))))))
theorem dX12_legibleIn_0 : decode cX12_legibleIn 0 = .ok (.iconst 0, 1) := by decide +kernel
theorem dX12_legibleIn_1 : decode cX12_legibleIn 1 = .ok (.istore_n 2, 1) := by decide +kernel
theorem dX12_legibleIn_2 : decode cX12_legibleIn 2 = .ok (.iconst 0, 1) := by decide +kernel
theorem dX12_legibleIn_3 : decode cX12_legibleIn 3 = .ok (.istore_n 3, 1) := by decide +kernel
theorem dX12_legibleIn_4 : decode cX12_legibleIn 4 = .ok (.iload_n 3, 1) := by decide +kernel
theorem dX12_legibleIn_5 : decode cX12_legibleIn 5 = .ok (.aload_n 0, 1) := by decide +kernel
theorem dX12_legibleIn_6 : decode cX12_legibleIn 6 = .ok (.getfield 46, 3) := by decide +kernel
theorem dX12_legibleIn_9 : decode cX12_legibleIn 9 = .ok (.iconst 0, 1) := by decide +kernel
theorem dX12_legibleIn_10 : decode cX12_legibleIn 10 = .ok (.iaload, 1) := by decide +kernel
theorem dX12_legibleIn_11 : decode cX12_legibleIn 11 = .ok (.if_icmp .ge 63, 3) := by decide +kernel
theorem dX12_legibleIn_14 : decode cX12_legibleIn 14 = .ok (.aload_n 0, 1) := by decide +kernel
theorem dX12_legibleIn_15 : decode cX12_legibleIn 15 = .ok (.getfield 46, 3) := by decide +kernel
theorem dX12_legibleIn_18 : decode cX12_legibleIn 18 = .ok (.iconst 0, 1) := by decide +kernel
theorem dX12_legibleIn_19 : decode cX12_legibleIn 19 = .ok (.iaload, 1) := by decide +kernel
theorem dX12_legibleIn_20 : decode cX12_legibleIn 20 = .ok (.iload_n 1, 1) := by decide +kernel
theorem dX12_legibleIn_21 : decode cX12_legibleIn 21 = .ok (.imul, 1) := by decide +kernel
theorem dX12_legibleIn_22 : decode cX12_legibleIn 22 = .ok (.iload_n 3, 1) := by decide +kernel
theorem dX12_legibleIn_23 : decode cX12_legibleIn 23 = .ok (.iadd, 1) := by decide +kernel
theorem dX12_legibleIn_24 : decode cX12_legibleIn 24 = .ok (.istore 4, 2) := by decide +kernel
theorem dX12_legibleIn_26 : decode cX12_legibleIn 26 = .ok (.iconst 0, 1) := by decide +kernel
theorem dX12_legibleIn_27 : decode cX12_legibleIn 27 = .ok (.istore 5, 2) := by decide +kernel
theorem dX12_legibleIn_29 : decode cX12_legibleIn 29 = .ok (.iload 5, 2) := by decide +kernel
theorem dX12_legibleIn_31 : decode cX12_legibleIn 31 = .ok (.aload_n 0, 1) := by decide +kernel
theorem dX12_legibleIn_32 : decode cX12_legibleIn 32 = .ok (.getfield 61, 3) := by decide +kernel
theorem dX12_legibleIn_35 : decode cX12_legibleIn 35 = .ok (.iconst 0, 1) := by decide +kernel
theorem dX12_legibleIn_36 : decode cX12_legibleIn 36 = .ok (.iload 4, 2) := by decide +kernel
theorem dX12_legibleIn_38 : decode cX12_legibleIn 38 = .ok (.iadd, 1) := by decide +kernel
theorem dX12_legibleIn_39 : decode cX12_legibleIn 39 = .ok (.iaload, 1) := by decide +kernel
theorem dX12_legibleIn_40 : decode cX12_legibleIn 40 = .ok (.if_icmp .ge 28, 3) := by decide +kernel
theorem dX12_legibleIn_43 : decode cX12_legibleIn 43 = .ok (.iload_n 2, 1) := by decide +kernel
theorem dX12_legibleIn_44 : decode cX12_legibleIn 44 = .ok (.aload_n 0, 1) := by decide +kernel
theorem dX12_legibleIn_45 : decode cX12_legibleIn 45 = .ok (.iload 4, 2) := by decide +kernel
theorem dX12_legibleIn_47 : decode cX12_legibleIn 47 = .ok (.iload 5, 2) := by decide +kernel
theorem dX12_legibleIn_49 : decode cX12_legibleIn 49 = .ok (.invokevirtual 301, 3) := by decide +kernel
theorem dX12_legibleIn_52 : decode cX12_legibleIn 52 = .ok (.ifCond .eq 7, 3) := by decide +kernel
theorem dX12_legibleIn_55 : decode cX12_legibleIn 55 = .ok (.iconst 1, 1) := by decide +kernel
theorem dX12_legibleIn_56 : decode cX12_legibleIn 56 = .ok (.goto 4, 3) := by decide +kernel
theorem dX12_legibleIn_59 : decode cX12_legibleIn 59 = .ok (.iconst 0, 1) := by decide +kernel
theorem dX12_legibleIn_60 : decode cX12_legibleIn 60 = .ok (.iadd, 1) := by decide +kernel
theorem dX12_legibleIn_61 : decode cX12_legibleIn 61 = .ok (.istore_n 2, 1) := by decide +kernel
theorem dX12_legibleIn_62 : decode cX12_legibleIn 62 = .ok (.iinc 5 1, 3) := by decide +kernel
theorem dX12_legibleIn_65 : decode cX12_legibleIn 65 = .ok (.goto (-36), 3) := by decide +kernel
theorem dX12_legibleIn_68 : decode cX12_legibleIn 68 = .ok (.iinc 3 1, 3) := by decide +kernel
theorem dX12_legibleIn_71 : decode cX12_legibleIn 71 = .ok (.goto (-67), 3) := by decide +kernel
theorem dX12_legibleIn_74 : decode cX12_legibleIn 74 = .ok (.iload_n 2, 1) := by decide +kernel
theorem dX12_legibleIn_75 : decode cX12_legibleIn 75 = .ok (.ireturn, 1) := by decide +kernel
def kX12_legibleIn_0 (g : sk_G) (d ck sk : Nat) (Q : sk_P) : sk_K := o_i (0) (o_istore 2 (o_i (0) (o_istore 3 (sk_B (g, d, ck, sk, xX12_legibleIn, Q) 4))))
theorem tX12_legibleIn_0 {g : sk_G} {d ck sk : Nat} {Q : sk_P} : sk_S (g, d, ck, sk, xX12_legibleIn, Q) 0 (kX12_legibleIn_0 g d ck sk Q) := s_iconst dX12_legibleIn_0 (s_istore_n dX12_legibleIn_1 rfl (by decide : 2 < 6) (s_iconst dX12_legibleIn_2 (s_istore_n dX12_legibleIn_3 rfl (by decide : 3 < 6) (sk_id))))
set_option maxRecDepth 20000 in
def kX12_legibleIn_4 (g : sk_G) (d ck sk : Nat) (Q : sk_P) : sk_K := o_iload 3 (o_aload 0 (o_getf 12 20 (o_i (0) (o_iaload (o_icge (o_iload 2 (o_iret (g, d, ck, sk, xX12_legibleIn, Q))) (o_aload 0 (o_getf 12 20 (o_i (0) (o_iaload (o_iload 1 (o_imul (o_iload 3 (o_iadd (o_istore 4 (o_i (0) (o_istore 5 (sk_B (g, d, ck, sk, xX12_legibleIn, Q) 29)))))))))))))))))
set_option maxRecDepth 20000 in
theorem tX12_legibleIn_4 {g : sk_G} {d ck sk : Nat} {Q : sk_P} : sk_S (g, d, ck, sk, xX12_legibleIn, Q) 4 (kX12_legibleIn_4 g d ck sk Q) := s_iload_n dX12_legibleIn_4 rfl (s_aload_n dX12_legibleIn_5 rfl (s_getf (ci := 12) (j := 20) (C := RX12) (T := TX12) (N := 49) dX12_legibleIn_6 rfl (by decide) (by decide) qf_X12_46 (s_iconst dX12_legibleIn_9 (s_iaload dX12_legibleIn_10 (s_icge (tgt := 74) dX12_legibleIn_11 (by decide) (s_iload_n dX12_legibleIn_74 rfl (s_iret dX12_legibleIn_75 rfl)) (s_aload_n dX12_legibleIn_14 rfl (s_getf (ci := 12) (j := 20) (C := RX12) (T := TX12) (N := 49) dX12_legibleIn_15 rfl (by decide) (by decide) qf_X12_46 (s_iconst dX12_legibleIn_18 (s_iaload dX12_legibleIn_19 (s_iload_n dX12_legibleIn_20 rfl (s_imul dX12_legibleIn_21 (s_iload_n dX12_legibleIn_22 rfl (s_iadd dX12_legibleIn_23 (s_istore dX12_legibleIn_24 (by decide : 4 < 6) (s_iconst dX12_legibleIn_26 (s_istore dX12_legibleIn_27 (by decide : 5 < 6) (sk_id)))))))))))))))))
set_option maxRecDepth 20000 in
def kX12_legibleIn_29 (g : sk_G) (d ck sk : Nat) (Q : sk_P) : sk_K := o_iload 5 (o_aload 0 (o_getf 12 28 (o_i (0) (o_iload 4 (o_iadd (o_iaload (o_icge (o_iinc 3 (1) (sk_B (g, d, ck, sk, xX12_legibleIn, Q) 4)) (o_iload 2 (o_aload 0 (o_iload 4 (o_iload 5 (o_invT (g, d, ck, sk, xX12_legibleIn, Q) 3 2 12 (fun Q => kX12_isLegible_0 g (d - 1) 0 0 Q) (o_ifeq (o_i (0) (o_iadd (o_istore 2 (o_iinc 5 (1) (sk_B (g, d, ck, sk, xX12_legibleIn, Q) 29))))) (o_i (1) (o_iadd (o_istore 2 (o_iinc 5 (1) (sk_B (g, d, ck, sk, xX12_legibleIn, Q) 29))))))))))))))))))
set_option maxRecDepth 20000 in
theorem tX12_legibleIn_29 {g : sk_G} {d ck sk : Nat} {Q : sk_P} : sk_S (g, d, ck, sk, xX12_legibleIn, Q) 29 (kX12_legibleIn_29 g d ck sk Q) := s_iload dX12_legibleIn_29 (s_aload_n dX12_legibleIn_31 rfl (s_getf (ci := 12) (j := 28) (C := RX12) (T := TX12) (N := 49) dX12_legibleIn_32 rfl (by decide) (by decide) qf_X12_61 (s_iconst dX12_legibleIn_35 (s_iload dX12_legibleIn_36 (s_iadd dX12_legibleIn_38 (s_iaload dX12_legibleIn_39 (s_icge (tgt := 68) dX12_legibleIn_40 (by decide) (s_iinc dX12_legibleIn_68 (by decide : 3 < 6) (s_goto (tgt := 4) dX12_legibleIn_71 (by decide) (sk_id))) (s_iload_n dX12_legibleIn_43 rfl (s_aload_n dX12_legibleIn_44 rfl (s_iload dX12_legibleIn_45 (s_iload dX12_legibleIn_47 (s_invT (X := xX12_isLegible) (ci := 12) (T := TX12) (N := 49) (K := (fun Q => kX12_isLegible_0 g (d - 1) 0 0 Q)) (fun _ => tX12_isLegible_0) rfl dX12_legibleIn_49 m_X12_isLegible rfl (by decide) qm_X12_301 qi_X12_isLegible qe_X12_isLegible (s_ifeq (tgt := 59) dX12_legibleIn_52 (by decide) (s_iconst dX12_legibleIn_59 (s_iadd dX12_legibleIn_60 (s_istore_n dX12_legibleIn_61 rfl (by decide : 2 < 6) (s_iinc dX12_legibleIn_62 (by decide : 5 < 6) (s_goto (tgt := 29) dX12_legibleIn_65 (by decide) (sk_id)))))) (s_iconst dX12_legibleIn_55 (s_goto (tgt := 60) dX12_legibleIn_56 (by decide) (s_iadd dX12_legibleIn_60 (s_istore_n dX12_legibleIn_61 rfl (by decide : 2 < 6) (s_iinc dX12_legibleIn_62 (by decide : 5 < 6) (s_goto (tgt := 29) dX12_legibleIn_65 (by decide) (sk_id))))))))))))))))))))
theorem dX12_readIn_0 : decode cX12_readIn 0 = .ok (.iconst 0, 1) := by decide +kernel
theorem dX12_readIn_1 : decode cX12_readIn 1 = .ok (.istore_n 3, 1) := by decide +kernel
theorem dX12_readIn_2 : decode cX12_readIn 2 = .ok (.iconst 0, 1) := by decide +kernel
theorem dX12_readIn_3 : decode cX12_readIn 3 = .ok (.istore 4, 2) := by decide +kernel
theorem dX12_readIn_5 : decode cX12_readIn 5 = .ok (.iload 4, 2) := by decide +kernel
theorem dX12_readIn_7 : decode cX12_readIn 7 = .ok (.aload_n 0, 1) := by decide +kernel
theorem dX12_readIn_8 : decode cX12_readIn 8 = .ok (.getfield 46, 3) := by decide +kernel
theorem dX12_readIn_11 : decode cX12_readIn 11 = .ok (.iconst 0, 1) := by decide +kernel
theorem dX12_readIn_12 : decode cX12_readIn 12 = .ok (.iaload, 1) := by decide +kernel
theorem dX12_readIn_13 : decode cX12_readIn 13 = .ok (.if_icmp .ge 99, 3) := by decide +kernel
theorem dX12_readIn_16 : decode cX12_readIn 16 = .ok (.aload_n 0, 1) := by decide +kernel
theorem dX12_readIn_17 : decode cX12_readIn 17 = .ok (.getfield 46, 3) := by decide +kernel
theorem dX12_readIn_20 : decode cX12_readIn 20 = .ok (.iconst 0, 1) := by decide +kernel
theorem dX12_readIn_21 : decode cX12_readIn 21 = .ok (.iaload, 1) := by decide +kernel
theorem dX12_readIn_22 : decode cX12_readIn 22 = .ok (.iload_n 1, 1) := by decide +kernel
theorem dX12_readIn_23 : decode cX12_readIn 23 = .ok (.imul, 1) := by decide +kernel
theorem dX12_readIn_24 : decode cX12_readIn 24 = .ok (.iload 4, 2) := by decide +kernel
theorem dX12_readIn_26 : decode cX12_readIn 26 = .ok (.iadd, 1) := by decide +kernel
theorem dX12_readIn_27 : decode cX12_readIn 27 = .ok (.istore 5, 2) := by decide +kernel
theorem dX12_readIn_29 : decode cX12_readIn 29 = .ok (.iload_n 2, 1) := by decide +kernel
theorem dX12_readIn_30 : decode cX12_readIn 30 = .ok (.ifCond .ne 22, 3) := by decide +kernel
theorem dX12_readIn_33 : decode cX12_readIn 33 = .ok (.aload_n 0, 1) := by decide +kernel
theorem dX12_readIn_34 : decode cX12_readIn 34 = .ok (.iload 5, 2) := by decide +kernel
theorem dX12_readIn_36 : decode cX12_readIn 36 = .ok (.invokevirtual 307, 3) := by decide +kernel
theorem dX12_readIn_39 : decode cX12_readIn 39 = .ok (.bipush 26, 2) := by decide +kernel
theorem dX12_readIn_41 : decode cX12_readIn 41 = .ok (.if_icmp .eq 7, 3) := by decide +kernel
theorem dX12_readIn_44 : decode cX12_readIn 44 = .ok (.iconst 1, 1) := by decide +kernel
theorem dX12_readIn_45 : decode cX12_readIn 45 = .ok (.goto 37, 3) := by decide +kernel
theorem dX12_readIn_48 : decode cX12_readIn 48 = .ok (.iconst 0, 1) := by decide +kernel
theorem dX12_readIn_49 : decode cX12_readIn 49 = .ok (.goto 33, 3) := by decide +kernel
theorem dX12_readIn_52 : decode cX12_readIn 52 = .ok (.iload_n 2, 1) := by decide +kernel
theorem dX12_readIn_53 : decode cX12_readIn 53 = .ok (.iconst 1, 1) := by decide +kernel
theorem dX12_readIn_54 : decode cX12_readIn 54 = .ok (.if_icmp .ne 22, 3) := by decide +kernel
theorem dX12_readIn_57 : decode cX12_readIn 57 = .ok (.aload_n 0, 1) := by decide +kernel
theorem dX12_readIn_58 : decode cX12_readIn 58 = .ok (.iload 5, 2) := by decide +kernel
theorem dX12_readIn_60 : decode cX12_readIn 60 = .ok (.invokevirtual 304, 3) := by decide +kernel
theorem dX12_readIn_63 : decode cX12_readIn 63 = .ok (.bipush 26, 2) := by decide +kernel
theorem dX12_readIn_65 : decode cX12_readIn 65 = .ok (.if_icmp .eq 7, 3) := by decide +kernel
theorem dX12_readIn_68 : decode cX12_readIn 68 = .ok (.iconst 1, 1) := by decide +kernel
theorem dX12_readIn_69 : decode cX12_readIn 69 = .ok (.goto 13, 3) := by decide +kernel
theorem dX12_readIn_72 : decode cX12_readIn 72 = .ok (.iconst 0, 1) := by decide +kernel
theorem dX12_readIn_73 : decode cX12_readIn 73 = .ok (.goto 9, 3) := by decide +kernel
theorem dX12_readIn_76 : decode cX12_readIn 76 = .ok (.aload_n 0, 1) := by decide +kernel
theorem dX12_readIn_77 : decode cX12_readIn 77 = .ok (.iload 5, 2) := by decide +kernel
theorem dX12_readIn_79 : decode cX12_readIn 79 = .ok (.invokevirtual 461, 3) := by decide +kernel
theorem dX12_readIn_82 : decode cX12_readIn 82 = .ok (.istore 6, 2) := by decide +kernel
theorem dX12_readIn_84 : decode cX12_readIn 84 = .ok (.iload_n 3, 1) := by decide +kernel
theorem dX12_readIn_85 : decode cX12_readIn 85 = .ok (.iload 6, 2) := by decide +kernel
theorem dX12_readIn_87 : decode cX12_readIn 87 = .ok (.ifCond .eq 16, 3) := by decide +kernel
theorem dX12_readIn_90 : decode cX12_readIn 90 = .ok (.iload_n 2, 1) := by decide +kernel
theorem dX12_readIn_91 : decode cX12_readIn 91 = .ok (.iconst 2, 1) := by decide +kernel
theorem dX12_readIn_92 : decode cX12_readIn 92 = .ok (.if_icmp .ne 7, 3) := by decide +kernel
theorem dX12_readIn_95 : decode cX12_readIn 95 = .ok (.iconst 3, 1) := by decide +kernel
theorem dX12_readIn_96 : decode cX12_readIn 96 = .ok (.goto 8, 3) := by decide +kernel
theorem dX12_readIn_99 : decode cX12_readIn 99 = .ok (.iconst 1, 1) := by decide +kernel
theorem dX12_readIn_100 : decode cX12_readIn 100 = .ok (.goto 4, 3) := by decide +kernel
theorem dX12_readIn_103 : decode cX12_readIn 103 = .ok (.iconst 0, 1) := by decide +kernel
theorem dX12_readIn_104 : decode cX12_readIn 104 = .ok (.iadd, 1) := by decide +kernel
theorem dX12_readIn_105 : decode cX12_readIn 105 = .ok (.istore_n 3, 1) := by decide +kernel
theorem dX12_readIn_106 : decode cX12_readIn 106 = .ok (.iinc 4 1, 3) := by decide +kernel
theorem dX12_readIn_109 : decode cX12_readIn 109 = .ok (.goto (-104), 3) := by decide +kernel
theorem dX12_readIn_112 : decode cX12_readIn 112 = .ok (.iload_n 3, 1) := by decide +kernel
theorem dX12_readIn_113 : decode cX12_readIn 113 = .ok (.iload_n 2, 1) := by decide +kernel
theorem dX12_readIn_114 : decode cX12_readIn 114 = .ok (.isub, 1) := by decide +kernel
theorem dX12_readIn_115 : decode cX12_readIn 115 = .ok (.ireturn, 1) := by decide +kernel
def kX12_readIn_0 (g : sk_G) (d ck sk : Nat) (Q : sk_P) : sk_K := o_i (0) (o_istore 3 (o_i (0) (o_istore 4 (sk_B (g, d, ck, sk, xX12_readIn, Q) 5))))
theorem tX12_readIn_0 {g : sk_G} {d ck sk : Nat} {Q : sk_P} : sk_S (g, d, ck, sk, xX12_readIn, Q) 0 (kX12_readIn_0 g d ck sk Q) := s_iconst dX12_readIn_0 (s_istore_n dX12_readIn_1 rfl (by decide : 3 < 7) (s_iconst dX12_readIn_2 (s_istore dX12_readIn_3 (by decide : 4 < 7) (sk_id))))
set_option maxRecDepth 20000 in
def kX12_readIn_5 (g : sk_G) (d ck sk : Nat) (Q : sk_P) : sk_K := o_iload 4 (o_aload 0 (o_getf 12 20 (o_i (0) (o_iaload (o_icge (o_iload 3 (o_iload 2 (o_isub (o_iret (g, d, ck, sk, xX12_readIn, Q))))) (o_aload 0 (o_getf 12 20 (o_i (0) (o_iaload (o_iload 1 (o_imul (o_iload 4 (o_iadd (o_istore 5 (o_iload 2 (o_ifne (o_iload 2 (o_i (1) (o_icne (o_aload 0 (o_iload 5 (o_invB (g, d, ck, sk, xX12_readIn, Q) xX12_isBeneath 1 12 0 0 (sk_B (g, d, ck, sk, xX12_readIn, Q) 82)))) (o_aload 0 (o_iload 5 (o_invB (g, d, ck, sk, xX12_readIn, Q) xX12_lampAt 1 12 0 0 (o_i (26) (o_iceq (o_i (0) (sk_B (g, d, ck, sk, xX12_readIn, Q) 82)) (o_i (1) (sk_B (g, d, ck, sk, xX12_readIn, Q) 82)))))))))) (o_aload 0 (o_iload 5 (o_invB (g, d, ck, sk, xX12_readIn, Q) xX12_showsAt 1 12 0 0 (o_i (26) (o_iceq (o_i (0) (sk_B (g, d, ck, sk, xX12_readIn, Q) 82)) (o_i (1) (sk_B (g, d, ck, sk, xX12_readIn, Q) 82)))))))))))))))))))))))
set_option maxRecDepth 20000 in
theorem tX12_readIn_5 {g : sk_G} {d ck sk : Nat} {Q : sk_P} : sk_S (g, d, ck, sk, xX12_readIn, Q) 5 (kX12_readIn_5 g d ck sk Q) := s_iload dX12_readIn_5 (s_aload_n dX12_readIn_7 rfl (s_getf (ci := 12) (j := 20) (C := RX12) (T := TX12) (N := 49) dX12_readIn_8 rfl (by decide) (by decide) qf_X12_46 (s_iconst dX12_readIn_11 (s_iaload dX12_readIn_12 (s_icge (tgt := 112) dX12_readIn_13 (by decide) (s_iload_n dX12_readIn_112 rfl (s_iload_n dX12_readIn_113 rfl (s_isub dX12_readIn_114 (s_iret dX12_readIn_115 rfl)))) (s_aload_n dX12_readIn_16 rfl (s_getf (ci := 12) (j := 20) (C := RX12) (T := TX12) (N := 49) dX12_readIn_17 rfl (by decide) (by decide) qf_X12_46 (s_iconst dX12_readIn_20 (s_iaload dX12_readIn_21 (s_iload_n dX12_readIn_22 rfl (s_imul dX12_readIn_23 (s_iload dX12_readIn_24 (s_iadd dX12_readIn_26 (s_istore dX12_readIn_27 (by decide : 5 < 7) (s_iload_n dX12_readIn_29 rfl (s_ifne (tgt := 52) dX12_readIn_30 (by decide) (s_iload_n dX12_readIn_52 rfl (s_iconst dX12_readIn_53 (s_icne (tgt := 76) dX12_readIn_54 (by decide) (s_aload_n dX12_readIn_76 rfl (s_iload dX12_readIn_77 (s_invB (w' := (g, d, ck, sk, xX12_readIn, Q)) (ci := 12) (ck := 0) (sk := 0) (T := TX12) (N := 49) dX12_readIn_79 m_X12_isBeneath rfl (by decide) qm_X12_461 qi_X12_isBeneath qe_X12_isBeneath rfl (sk_id)))) (s_aload_n dX12_readIn_57 rfl (s_iload dX12_readIn_58 (s_invB (w' := (g, d, ck, sk, xX12_readIn, Q)) (ci := 12) (ck := 0) (sk := 0) (T := TX12) (N := 49) dX12_readIn_60 m_X12_lampAt rfl (by decide) qm_X12_304 qi_X12_lampAt qe_X12_lampAt rfl (s_bipush dX12_readIn_63 rfl (s_iceq (tgt := 72) dX12_readIn_65 (by decide) (s_iconst dX12_readIn_72 (s_goto (tgt := 82) dX12_readIn_73 (by decide) (sk_id))) (s_iconst dX12_readIn_68 (s_goto (tgt := 82) dX12_readIn_69 (by decide) (sk_id))))))))))) (s_aload_n dX12_readIn_33 rfl (s_iload dX12_readIn_34 (s_invB (w' := (g, d, ck, sk, xX12_readIn, Q)) (ci := 12) (ck := 0) (sk := 0) (T := TX12) (N := 49) dX12_readIn_36 m_X12_showsAt rfl (by decide) qm_X12_307 qi_X12_showsAt qe_X12_showsAt rfl (s_bipush dX12_readIn_39 rfl (s_iceq (tgt := 48) dX12_readIn_41 (by decide) (s_iconst dX12_readIn_48 (s_goto (tgt := 82) dX12_readIn_49 (by decide) (sk_id))) (s_iconst dX12_readIn_44 (s_goto (tgt := 82) dX12_readIn_45 (by decide) (sk_id))))))))))))))))))))))))
set_option maxRecDepth 20000 in
def kX12_readIn_82 (g : sk_G) (d ck sk : Nat) (Q : sk_P) : sk_K := o_istore 6 (o_iload 3 (o_iload 6 (o_ifeq (o_i (0) (o_iadd (o_istore 3 (o_iinc 4 (1) (sk_B (g, d, ck, sk, xX12_readIn, Q) 5))))) (o_iload 2 (o_i (2) (o_icne (o_i (1) (o_iadd (o_istore 3 (o_iinc 4 (1) (sk_B (g, d, ck, sk, xX12_readIn, Q) 5))))) (o_i (3) (o_iadd (o_istore 3 (o_iinc 4 (1) (sk_B (g, d, ck, sk, xX12_readIn, Q) 5)))))))))))
set_option maxRecDepth 20000 in
theorem tX12_readIn_82 {g : sk_G} {d ck sk : Nat} {Q : sk_P} : sk_S (g, d, ck, sk, xX12_readIn, Q) 82 (kX12_readIn_82 g d ck sk Q) := s_istore dX12_readIn_82 (by decide : 6 < 7) (s_iload_n dX12_readIn_84 rfl (s_iload dX12_readIn_85 (s_ifeq (tgt := 103) dX12_readIn_87 (by decide) (s_iconst dX12_readIn_103 (s_iadd dX12_readIn_104 (s_istore_n dX12_readIn_105 rfl (by decide : 3 < 7) (s_iinc dX12_readIn_106 (by decide : 4 < 7) (s_goto (tgt := 5) dX12_readIn_109 (by decide) (sk_id)))))) (s_iload_n dX12_readIn_90 rfl (s_iconst dX12_readIn_91 (s_icne (tgt := 99) dX12_readIn_92 (by decide) (s_iconst dX12_readIn_99 (s_goto (tgt := 104) dX12_readIn_100 (by decide) (s_iadd dX12_readIn_104 (s_istore_n dX12_readIn_105 rfl (by decide : 3 < 7) (s_iinc dX12_readIn_106 (by decide : 4 < 7) (s_goto (tgt := 5) dX12_readIn_109 (by decide) (sk_id))))))) (s_iconst dX12_readIn_95 (s_goto (tgt := 104) dX12_readIn_96 (by decide) (s_iadd dX12_readIn_104 (s_istore_n dX12_readIn_105 rfl (by decide : 3 < 7) (s_iinc dX12_readIn_106 (by decide : 4 < 7) (s_goto (tgt := 5) dX12_readIn_109 (by decide) (sk_id)))))))))))))
theorem dX12_isBeneath_0 : decode cX12_isBeneath 0 = .ok (.aload_n 0, 1) := by decide +kernel
theorem dX12_isBeneath_1 : decode cX12_isBeneath 1 = .ok (.iload_n 1, 1) := by decide +kernel
theorem dX12_isBeneath_2 : decode cX12_isBeneath 2 = .ok (.invokevirtual 304, 3) := by decide +kernel
theorem dX12_isBeneath_5 : decode cX12_isBeneath 5 = .ok (.bipush 26, 2) := by decide +kernel
theorem dX12_isBeneath_7 : decode cX12_isBeneath 7 = .ok (.if_icmp .eq 20, 3) := by decide +kernel
theorem dX12_isBeneath_10 : decode cX12_isBeneath 10 = .ok (.aload_n 0, 1) := by decide +kernel
theorem dX12_isBeneath_11 : decode cX12_isBeneath 11 = .ok (.iload_n 1, 1) := by decide +kernel
theorem dX12_isBeneath_12 : decode cX12_isBeneath 12 = .ok (.invokevirtual 304, 3) := by decide +kernel
theorem dX12_isBeneath_15 : decode cX12_isBeneath 15 = .ok (.aload_n 0, 1) := by decide +kernel
theorem dX12_isBeneath_16 : decode cX12_isBeneath 16 = .ok (.iload_n 1, 1) := by decide +kernel
theorem dX12_isBeneath_17 : decode cX12_isBeneath 17 = .ok (.invokevirtual 307, 3) := by decide +kernel
theorem dX12_isBeneath_20 : decode cX12_isBeneath 20 = .ok (.if_icmp .eq 7, 3) := by decide +kernel
theorem dX12_isBeneath_23 : decode cX12_isBeneath 23 = .ok (.iconst 1, 1) := by decide +kernel
theorem dX12_isBeneath_24 : decode cX12_isBeneath 24 = .ok (.goto 4, 3) := by decide +kernel
theorem dX12_isBeneath_27 : decode cX12_isBeneath 27 = .ok (.iconst 0, 1) := by decide +kernel
theorem dX12_isBeneath_28 : decode cX12_isBeneath 28 = .ok (.ireturn, 1) := by decide +kernel
set_option maxRecDepth 20000 in
def kX12_isBeneath_0 (g : sk_G) (d ck sk : Nat) (Q : sk_P) : sk_K := o_aload 0 (o_iload 1 (o_invB (g, d, ck, sk, xX12_isBeneath, Q) xX12_lampAt 1 12 0 0 (o_i (26) (o_iceq (o_i (0) (o_zret (g, d, ck, sk, xX12_isBeneath, Q))) (o_aload 0 (o_iload 1 (o_invB (g, d, ck, sk, xX12_isBeneath, Q) xX12_lampAt 1 12 0 0 (o_aload 0 (o_iload 1 (o_invB (g, d, ck, sk, xX12_isBeneath, Q) xX12_showsAt 1 12 0 0 (o_iceq (o_i (0) (o_zret (g, d, ck, sk, xX12_isBeneath, Q))) (o_i (1) (o_zret (g, d, ck, sk, xX12_isBeneath, Q))))))))))))))
set_option maxRecDepth 20000 in
theorem tX12_isBeneath_0 {g : sk_G} {d ck sk : Nat} {Q : sk_P} : sk_S (g, d, ck, sk, xX12_isBeneath, Q) 0 (kX12_isBeneath_0 g d ck sk Q) := s_aload_n dX12_isBeneath_0 rfl (s_iload_n dX12_isBeneath_1 rfl (s_invB (w' := (g, d, ck, sk, xX12_isBeneath, Q)) (ci := 12) (ck := 0) (sk := 0) (T := TX12) (N := 49) dX12_isBeneath_2 m_X12_lampAt rfl (by decide) qm_X12_304 qi_X12_lampAt qe_X12_lampAt rfl (s_bipush dX12_isBeneath_5 rfl (s_iceq (tgt := 27) dX12_isBeneath_7 (by decide) (s_iconst dX12_isBeneath_27 (s_zret dX12_isBeneath_28 rfl)) (s_aload_n dX12_isBeneath_10 rfl (s_iload_n dX12_isBeneath_11 rfl (s_invB (w' := (g, d, ck, sk, xX12_isBeneath, Q)) (ci := 12) (ck := 0) (sk := 0) (T := TX12) (N := 49) dX12_isBeneath_12 m_X12_lampAt rfl (by decide) qm_X12_304 qi_X12_lampAt qe_X12_lampAt rfl (s_aload_n dX12_isBeneath_15 rfl (s_iload_n dX12_isBeneath_16 rfl (s_invB (w' := (g, d, ck, sk, xX12_isBeneath, Q)) (ci := 12) (ck := 0) (sk := 0) (T := TX12) (N := 49) dX12_isBeneath_17 m_X12_showsAt rfl (by decide) qm_X12_307 qi_X12_showsAt qe_X12_showsAt rfl (s_iceq (tgt := 27) dX12_isBeneath_20 (by decide) (s_iconst dX12_isBeneath_27 (s_zret dX12_isBeneath_28 rfl)) (s_iconst dX12_isBeneath_23 (s_goto (tgt := 28) dX12_isBeneath_24 (by decide) (s_zret dX12_isBeneath_28 rfl))))))))))))))
theorem dX12_rests_0 : decode cX12_rests 0 = .ok (.aload_n 0, 1) := by decide +kernel
theorem dX12_rests_1 : decode cX12_rests 1 = .ok (.iload_n 1, 1) := by decide +kernel
theorem dX12_rests_2 : decode cX12_rests 2 = .ok (.invokevirtual 376, 3) := by decide +kernel
theorem dX12_rests_5 : decode cX12_rests 5 = .ok (.ifCond .eq 8, 3) := by decide +kernel
theorem dX12_rests_8 : decode cX12_rests 8 = .ok (.iload_n 2, 1) := by decide +kernel
theorem dX12_rests_9 : decode cX12_rests 9 = .ok (.iconst (-1), 1) := by decide +kernel
theorem dX12_rests_10 : decode cX12_rests 10 = .ok (.if_icmp .ge 5, 3) := by decide +kernel
theorem dX12_rests_13 : decode cX12_rests 13 = .ok (.iconst (-1), 1) := by decide +kernel
theorem dX12_rests_14 : decode cX12_rests 14 = .ok (.ireturn, 1) := by decide +kernel
theorem dX12_rests_15 : decode cX12_rests 15 = .ok (.iconst 0, 1) := by decide +kernel
theorem dX12_rests_16 : decode cX12_rests 16 = .ok (.istore_n 3, 1) := by decide +kernel
theorem dX12_rests_17 : decode cX12_rests 17 = .ok (.iconst 0, 1) := by decide +kernel
theorem dX12_rests_18 : decode cX12_rests 18 = .ok (.istore 4, 2) := by decide +kernel
theorem dX12_rests_20 : decode cX12_rests 20 = .ok (.iload 4, 2) := by decide +kernel
theorem dX12_rests_22 : decode cX12_rests 22 = .ok (.bipush 12, 2) := by decide +kernel
theorem dX12_rests_24 : decode cX12_rests 24 = .ok (.if_icmp .ge 46, 3) := by decide +kernel
theorem dX12_rests_27 : decode cX12_rests 27 = .ok (.aload_n 0, 1) := by decide +kernel
theorem dX12_rests_28 : decode cX12_rests 28 = .ok (.iload_n 1, 1) := by decide +kernel
theorem dX12_rests_29 : decode cX12_rests 29 = .ok (.iload 4, 2) := by decide +kernel
theorem dX12_rests_31 : decode cX12_rests 31 = .ok (.iconst 3, 1) := by decide +kernel
theorem dX12_rests_32 : decode cX12_rests 32 = .ok (.idiv, 1) := by decide +kernel
theorem dX12_rests_33 : decode cX12_rests 33 = .ok (.iload 4, 2) := by decide +kernel
theorem dX12_rests_35 : decode cX12_rests 35 = .ok (.iconst 3, 1) := by decide +kernel
theorem dX12_rests_36 : decode cX12_rests 36 = .ok (.irem, 1) := by decide +kernel
theorem dX12_rests_37 : decode cX12_rests 37 = .ok (.invokevirtual 474, 3) := by decide +kernel
theorem dX12_rests_40 : decode cX12_rests 40 = .ok (.ifCond .eq 24, 3) := by decide +kernel
theorem dX12_rests_43 : decode cX12_rests 43 = .ok (.iload_n 3, 1) := by decide +kernel
theorem dX12_rests_44 : decode cX12_rests 44 = .ok (.iload_n 2, 1) := by decide +kernel
theorem dX12_rests_45 : decode cX12_rests 45 = .ok (.if_icmp .ne 16, 3) := by decide +kernel
theorem dX12_rests_48 : decode cX12_rests 48 = .ok (.bipush 10, 2) := by decide +kernel
theorem dX12_rests_50 : decode cX12_rests 50 = .ok (.iload 4, 2) := by decide +kernel
theorem dX12_rests_52 : decode cX12_rests 52 = .ok (.iconst 3, 1) := by decide +kernel
theorem dX12_rests_53 : decode cX12_rests 53 = .ok (.idiv, 1) := by decide +kernel
theorem dX12_rests_54 : decode cX12_rests 54 = .ok (.imul, 1) := by decide +kernel
theorem dX12_rests_55 : decode cX12_rests 55 = .ok (.iload 4, 2) := by decide +kernel
theorem dX12_rests_57 : decode cX12_rests 57 = .ok (.iconst 3, 1) := by decide +kernel
theorem dX12_rests_58 : decode cX12_rests 58 = .ok (.irem, 1) := by decide +kernel
theorem dX12_rests_59 : decode cX12_rests 59 = .ok (.iadd, 1) := by decide +kernel
theorem dX12_rests_60 : decode cX12_rests 60 = .ok (.ireturn, 1) := by decide +kernel
theorem dX12_rests_61 : decode cX12_rests 61 = .ok (.iinc 3 1, 3) := by decide +kernel
theorem dX12_rests_64 : decode cX12_rests 64 = .ok (.iinc 4 1, 3) := by decide +kernel
theorem dX12_rests_67 : decode cX12_rests 67 = .ok (.goto (-47), 3) := by decide +kernel
theorem dX12_rests_70 : decode cX12_rests 70 = .ok (.iload_n 2, 1) := by decide +kernel
theorem dX12_rests_71 : decode cX12_rests 71 = .ok (.iconst (-1), 1) := by decide +kernel
theorem dX12_rests_72 : decode cX12_rests 72 = .ok (.if_icmp .ne 7, 3) := by decide +kernel
theorem dX12_rests_75 : decode cX12_rests 75 = .ok (.iload_n 3, 1) := by decide +kernel
theorem dX12_rests_76 : decode cX12_rests 76 = .ok (.goto 4, 3) := by decide +kernel
theorem dX12_rests_79 : decode cX12_rests 79 = .ok (.iconst (-1), 1) := by decide +kernel
theorem dX12_rests_80 : decode cX12_rests 80 = .ok (.ireturn, 1) := by decide +kernel
set_option maxRecDepth 20000 in
def kX12_rests_0 (g : sk_G) (d ck sk : Nat) (Q : sk_P) : sk_K := o_aload 0 (o_iload 1 (o_invT (g, d, ck, sk, xX12_rests, Q) 2 1 12 (fun Q => kX12_isRow_0 g (d - 1) 0 0 Q) (o_ifeq (o_i (-1) (o_iret (g, d, ck, sk, xX12_rests, Q))) (o_iload 2 (o_i (-1) (o_icge (o_i (0) (o_istore 3 (o_i (0) (o_istore 4 (sk_B (g, d, ck, sk, xX12_rests, Q) 20))))) (o_i (-1) (o_iret (g, d, ck, sk, xX12_rests, Q)))))))))
set_option maxRecDepth 20000 in
theorem tX12_rests_0 {g : sk_G} {d ck sk : Nat} {Q : sk_P} : sk_S (g, d, ck, sk, xX12_rests, Q) 0 (kX12_rests_0 g d ck sk Q) := s_aload_n dX12_rests_0 rfl (s_iload_n dX12_rests_1 rfl (s_invT (X := xX12_isRow) (ci := 12) (T := TX12) (N := 49) (K := (fun Q => kX12_isRow_0 g (d - 1) 0 0 Q)) (fun _ => tX12_isRow_0) rfl dX12_rests_2 m_X12_isRow rfl (by decide) qm_X12_376 qi_X12_isRow qe_X12_isRow (s_ifeq (tgt := 13) dX12_rests_5 (by decide) (s_iconst dX12_rests_13 (s_iret dX12_rests_14 rfl)) (s_iload_n dX12_rests_8 rfl (s_iconst dX12_rests_9 (s_icge (tgt := 15) dX12_rests_10 (by decide) (s_iconst dX12_rests_15 (s_istore_n dX12_rests_16 rfl (by decide : 3 < 5) (s_iconst dX12_rests_17 (s_istore dX12_rests_18 (by decide : 4 < 5) (sk_id))))) (s_iconst dX12_rests_13 (s_iret dX12_rests_14 rfl))))))))
set_option maxRecDepth 20000 in
def kX12_rests_20 (g : sk_G) (d ck sk : Nat) (Q : sk_P) : sk_K := o_iload 4 (o_i (12) (o_icge (o_iload 2 (o_i (-1) (o_icne (o_i (-1) (o_iret (g, d, ck, sk, xX12_rests, Q))) (o_iload 3 (o_iret (g, d, ck, sk, xX12_rests, Q)))))) (o_aload 0 (o_iload 1 (o_iload 4 (o_i (3) (o_idiv (o_iload 4 (o_i (3) (o_irem (o_invB (g, d, ck, sk, xX12_rests, Q) xX12_isRest 3 12 0 0 (o_ifeq (o_iinc 4 (1) (sk_B (g, d, ck, sk, xX12_rests, Q) 20)) (o_iload 3 (o_iload 2 (o_icne (o_iinc 3 (1) (o_iinc 4 (1) (sk_B (g, d, ck, sk, xX12_rests, Q) 20))) (o_i (10) (o_iload 4 (o_i (3) (o_idiv (o_imul (o_iload 4 (o_i (3) (o_irem (o_iadd (o_iret (g, d, ck, sk, xX12_rests, Q))))))))))))))))))))))))))
set_option maxRecDepth 20000 in
theorem tX12_rests_20 {g : sk_G} {d ck sk : Nat} {Q : sk_P} : sk_S (g, d, ck, sk, xX12_rests, Q) 20 (kX12_rests_20 g d ck sk Q) := s_iload dX12_rests_20 (s_bipush dX12_rests_22 rfl (s_icge (tgt := 70) dX12_rests_24 (by decide) (s_iload_n dX12_rests_70 rfl (s_iconst dX12_rests_71 (s_icne (tgt := 79) dX12_rests_72 (by decide) (s_iconst dX12_rests_79 (s_iret dX12_rests_80 rfl)) (s_iload_n dX12_rests_75 rfl (s_goto (tgt := 80) dX12_rests_76 (by decide) (s_iret dX12_rests_80 rfl)))))) (s_aload_n dX12_rests_27 rfl (s_iload_n dX12_rests_28 rfl (s_iload dX12_rests_29 (s_iconst dX12_rests_31 (s_idiv dX12_rests_32 (s_iload dX12_rests_33 (s_iconst dX12_rests_35 (s_irem dX12_rests_36 (s_invB (w' := (g, d, ck, sk, xX12_rests, Q)) (ci := 12) (ck := 0) (sk := 0) (T := TX12) (N := 49) dX12_rests_37 m_X12_isRest rfl (by decide) qm_X12_474 qi_X12_isRest qe_X12_isRest rfl (s_ifeq (tgt := 64) dX12_rests_40 (by decide) (s_iinc dX12_rests_64 (by decide : 4 < 5) (s_goto (tgt := 20) dX12_rests_67 (by decide) (sk_id))) (s_iload_n dX12_rests_43 rfl (s_iload_n dX12_rests_44 rfl (s_icne (tgt := 61) dX12_rests_45 (by decide) (s_iinc dX12_rests_61 (by decide : 3 < 5) (s_iinc dX12_rests_64 (by decide : 4 < 5) (s_goto (tgt := 20) dX12_rests_67 (by decide) (sk_id)))) (s_bipush dX12_rests_48 rfl (s_iload dX12_rests_50 (s_iconst dX12_rests_52 (s_idiv dX12_rests_53 (s_imul dX12_rests_54 (s_iload dX12_rests_55 (s_iconst dX12_rests_57 (s_irem dX12_rests_58 (s_iadd dX12_rests_59 (s_iret dX12_rests_60 rfl)))))))))))))))))))))))))
theorem dX12_isRest_0 : decode cX12_isRest 0 = .ok (.iconst 0, 1) := by decide +kernel
theorem dX12_isRest_1 : decode cX12_isRest 1 = .ok (.istore 4, 2) := by decide +kernel
theorem dX12_isRest_3 : decode cX12_isRest 3 = .ok (.iload 4, 2) := by decide +kernel
theorem dX12_isRest_5 : decode cX12_isRest 5 = .ok (.iconst 4, 1) := by decide +kernel
theorem dX12_isRest_6 : decode cX12_isRest 6 = .ok (.if_icmp .ge 57, 3) := by decide +kernel
theorem dX12_isRest_9 : decode cX12_isRest 9 = .ok (.aload_n 0, 1) := by decide +kernel
theorem dX12_isRest_10 : decode cX12_isRest 10 = .ok (.iload_n 1, 1) := by decide +kernel
theorem dX12_isRest_11 : decode cX12_isRest 11 = .ok (.iload 4, 2) := by decide +kernel
theorem dX12_isRest_13 : decode cX12_isRest 13 = .ok (.iload_n 3, 1) := by decide +kernel
theorem dX12_isRest_14 : decode cX12_isRest 14 = .ok (.iconst 0, 1) := by decide +kernel
theorem dX12_isRest_15 : decode cX12_isRest 15 = .ok (.invokevirtual 470, 3) := by decide +kernel
theorem dX12_isRest_18 : decode cX12_isRest 18 = .ok (.aload_n 0, 1) := by decide +kernel
theorem dX12_isRest_19 : decode cX12_isRest 19 = .ok (.iload_n 1, 1) := by decide +kernel
theorem dX12_isRest_20 : decode cX12_isRest 20 = .ok (.iload_n 2, 1) := by decide +kernel
theorem dX12_isRest_21 : decode cX12_isRest 21 = .ok (.iload_n 3, 1) := by decide +kernel
theorem dX12_isRest_22 : decode cX12_isRest 22 = .ok (.iconst 0, 1) := by decide +kernel
theorem dX12_isRest_23 : decode cX12_isRest 23 = .ok (.invokevirtual 470, 3) := by decide +kernel
theorem dX12_isRest_26 : decode cX12_isRest 26 = .ok (.if_icmp .gt 29, 3) := by decide +kernel
theorem dX12_isRest_29 : decode cX12_isRest 29 = .ok (.iload 4, 2) := by decide +kernel
theorem dX12_isRest_31 : decode cX12_isRest 31 = .ok (.iconst 3, 1) := by decide +kernel
theorem dX12_isRest_32 : decode cX12_isRest 32 = .ok (.if_icmp .ge 25, 3) := by decide +kernel
theorem dX12_isRest_35 : decode cX12_isRest 35 = .ok (.aload_n 0, 1) := by decide +kernel
theorem dX12_isRest_36 : decode cX12_isRest 36 = .ok (.iload_n 1, 1) := by decide +kernel
theorem dX12_isRest_37 : decode cX12_isRest 37 = .ok (.iload_n 2, 1) := by decide +kernel
theorem dX12_isRest_38 : decode cX12_isRest 38 = .ok (.iload 4, 2) := by decide +kernel
theorem dX12_isRest_40 : decode cX12_isRest 40 = .ok (.iconst 1, 1) := by decide +kernel
theorem dX12_isRest_41 : decode cX12_isRest 41 = .ok (.invokevirtual 470, 3) := by decide +kernel
theorem dX12_isRest_44 : decode cX12_isRest 44 = .ok (.aload_n 0, 1) := by decide +kernel
theorem dX12_isRest_45 : decode cX12_isRest 45 = .ok (.iload_n 1, 1) := by decide +kernel
theorem dX12_isRest_46 : decode cX12_isRest 46 = .ok (.iload_n 2, 1) := by decide +kernel
theorem dX12_isRest_47 : decode cX12_isRest 47 = .ok (.iload_n 3, 1) := by decide +kernel
theorem dX12_isRest_48 : decode cX12_isRest 48 = .ok (.iconst 1, 1) := by decide +kernel
theorem dX12_isRest_49 : decode cX12_isRest 49 = .ok (.invokevirtual 470, 3) := by decide +kernel
theorem dX12_isRest_52 : decode cX12_isRest 52 = .ok (.if_icmp .le 5, 3) := by decide +kernel
theorem dX12_isRest_55 : decode cX12_isRest 55 = .ok (.iconst 0, 1) := by decide +kernel
theorem dX12_isRest_56 : decode cX12_isRest 56 = .ok (.ireturn, 1) := by decide +kernel
theorem dX12_isRest_57 : decode cX12_isRest 57 = .ok (.iinc 4 1, 3) := by decide +kernel
theorem dX12_isRest_60 : decode cX12_isRest 60 = .ok (.goto (-57), 3) := by decide +kernel
theorem dX12_isRest_63 : decode cX12_isRest 63 = .ok (.iconst 1, 1) := by decide +kernel
theorem dX12_isRest_64 : decode cX12_isRest 64 = .ok (.ireturn, 1) := by decide +kernel
def kX12_isRest_0 (g : sk_G) (d ck sk : Nat) (Q : sk_P) : sk_K := o_i (0) (o_istore 4 (sk_B (g, d, ck, sk, xX12_isRest, Q) 3))
theorem tX12_isRest_0 {g : sk_G} {d ck sk : Nat} {Q : sk_P} : sk_S (g, d, ck, sk, xX12_isRest, Q) 0 (kX12_isRest_0 g d ck sk Q) := s_iconst dX12_isRest_0 (s_istore dX12_isRest_1 (by decide : 4 < 5) (sk_id))
set_option maxRecDepth 20000 in
def kX12_isRest_3 (g : sk_G) (d ck sk : Nat) (Q : sk_P) : sk_K := o_iload 4 (o_i (4) (o_icge (o_i (1) (o_zret (g, d, ck, sk, xX12_isRest, Q))) (o_aload 0 (o_iload 1 (o_iload 4 (o_iload 3 (o_i (0) (o_invB (g, d, ck, sk, xX12_isRest, Q) xX12_gameOf 4 12 0 0 (o_aload 0 (o_iload 1 (o_iload 2 (o_iload 3 (o_i (0) (o_invB (g, d, ck, sk, xX12_isRest, Q) xX12_gameOf 4 12 0 0 (o_icgt (o_i (0) (o_zret (g, d, ck, sk, xX12_isRest, Q))) (o_iload 4 (o_i (3) (o_icge (o_iinc 4 (1) (sk_B (g, d, ck, sk, xX12_isRest, Q) 3)) (o_aload 0 (o_iload 1 (o_iload 2 (o_iload 4 (o_i (1) (o_invB (g, d, ck, sk, xX12_isRest, Q) xX12_gameOf 4 12 0 0 (o_aload 0 (o_iload 1 (o_iload 2 (o_iload 3 (o_i (1) (o_invB (g, d, ck, sk, xX12_isRest, Q) xX12_gameOf 4 12 0 0 (o_icle (o_iinc 4 (1) (sk_B (g, d, ck, sk, xX12_isRest, Q) 3)) (o_i (0) (o_zret (g, d, ck, sk, xX12_isRest, Q))))))))))))))))))))))))))))))))))
set_option maxRecDepth 20000 in
theorem tX12_isRest_3 {g : sk_G} {d ck sk : Nat} {Q : sk_P} : sk_S (g, d, ck, sk, xX12_isRest, Q) 3 (kX12_isRest_3 g d ck sk Q) := s_iload dX12_isRest_3 (s_iconst dX12_isRest_5 (s_icge (tgt := 63) dX12_isRest_6 (by decide) (s_iconst dX12_isRest_63 (s_zret dX12_isRest_64 rfl)) (s_aload_n dX12_isRest_9 rfl (s_iload_n dX12_isRest_10 rfl (s_iload dX12_isRest_11 (s_iload_n dX12_isRest_13 rfl (s_iconst dX12_isRest_14 (s_invB (w' := (g, d, ck, sk, xX12_isRest, Q)) (ci := 12) (ck := 0) (sk := 0) (T := TX12) (N := 49) dX12_isRest_15 m_X12_gameOf rfl (by decide) qm_X12_470 qi_X12_gameOf qe_X12_gameOf rfl (s_aload_n dX12_isRest_18 rfl (s_iload_n dX12_isRest_19 rfl (s_iload_n dX12_isRest_20 rfl (s_iload_n dX12_isRest_21 rfl (s_iconst dX12_isRest_22 (s_invB (w' := (g, d, ck, sk, xX12_isRest, Q)) (ci := 12) (ck := 0) (sk := 0) (T := TX12) (N := 49) dX12_isRest_23 m_X12_gameOf rfl (by decide) qm_X12_470 qi_X12_gameOf qe_X12_gameOf rfl (s_icgt (tgt := 55) dX12_isRest_26 (by decide) (s_iconst dX12_isRest_55 (s_zret dX12_isRest_56 rfl)) (s_iload dX12_isRest_29 (s_iconst dX12_isRest_31 (s_icge (tgt := 57) dX12_isRest_32 (by decide) (s_iinc dX12_isRest_57 (by decide : 4 < 5) (s_goto (tgt := 3) dX12_isRest_60 (by decide) (sk_id))) (s_aload_n dX12_isRest_35 rfl (s_iload_n dX12_isRest_36 rfl (s_iload_n dX12_isRest_37 rfl (s_iload dX12_isRest_38 (s_iconst dX12_isRest_40 (s_invB (w' := (g, d, ck, sk, xX12_isRest, Q)) (ci := 12) (ck := 0) (sk := 0) (T := TX12) (N := 49) dX12_isRest_41 m_X12_gameOf rfl (by decide) qm_X12_470 qi_X12_gameOf qe_X12_gameOf rfl (s_aload_n dX12_isRest_44 rfl (s_iload_n dX12_isRest_45 rfl (s_iload_n dX12_isRest_46 rfl (s_iload_n dX12_isRest_47 rfl (s_iconst dX12_isRest_48 (s_invB (w' := (g, d, ck, sk, xX12_isRest, Q)) (ci := 12) (ck := 0) (sk := 0) (T := TX12) (N := 49) dX12_isRest_49 m_X12_gameOf rfl (by decide) qm_X12_470 qi_X12_gameOf qe_X12_gameOf rfl (s_icle (tgt := 57) dX12_isRest_52 (by decide) (s_iinc dX12_isRest_57 (by decide : 4 < 5) (s_goto (tgt := 3) dX12_isRest_60 (by decide) (sk_id))) (s_iconst dX12_isRest_55 (s_zret dX12_isRest_56 rfl)))))))))))))))))))))))))))))))))
theorem dX12_odds_0 : decode cX12_odds 0 = .ok (.aload_n 0, 1) := by decide +kernel
theorem dX12_odds_1 : decode cX12_odds 1 = .ok (.iload_n 1, 1) := by decide +kernel
theorem dX12_odds_2 : decode cX12_odds 2 = .ok (.iload_n 2, 1) := by decide +kernel
theorem dX12_odds_3 : decode cX12_odds 3 = .ok (.invokevirtual 408, 3) := by decide +kernel
theorem dX12_odds_6 : decode cX12_odds 6 = .ok (.ifCond .eq 24, 3) := by decide +kernel
theorem dX12_odds_9 : decode cX12_odds 9 = .ok (.iload_n 3, 1) := by decide +kernel
theorem dX12_odds_10 : decode cX12_odds 10 = .ok (.iconst 0, 1) := by decide +kernel
theorem dX12_odds_11 : decode cX12_odds 11 = .ok (.bipush 100, 2) := by decide +kernel
theorem dX12_odds_13 : decode cX12_odds 13 = .ok (.invokestatic 224, 3) := by decide +kernel
theorem dX12_odds_16 : decode cX12_odds 16 = .ok (.ifCond .eq 14, 3) := by decide +kernel
theorem dX12_odds_19 : decode cX12_odds 19 = .ok (.iload 4, 2) := by decide +kernel
theorem dX12_odds_21 : decode cX12_odds 21 = .ok (.iconst 0, 1) := by decide +kernel
theorem dX12_odds_22 : decode cX12_odds 22 = .ok (.bipush 16, 2) := by decide +kernel
theorem dX12_odds_24 : decode cX12_odds 24 = .ok (.invokestatic 224, 3) := by decide +kernel
theorem dX12_odds_27 : decode cX12_odds 27 = .ok (.ifCond .ne 5, 3) := by decide +kernel
theorem dX12_odds_30 : decode cX12_odds 30 = .ok (.iconst (-1), 1) := by decide +kernel
theorem dX12_odds_31 : decode cX12_odds 31 = .ok (.ireturn, 1) := by decide +kernel
theorem dX12_odds_32 : decode cX12_odds 32 = .ok (.aload_n 0, 1) := by decide +kernel
theorem dX12_odds_33 : decode cX12_odds 33 = .ok (.aload_n 0, 1) := by decide +kernel
theorem dX12_odds_34 : decode cX12_odds 34 = .ok (.iload_n 1, 1) := by decide +kernel
theorem dX12_odds_35 : decode cX12_odds 35 = .ok (.iload_n 2, 1) := by decide +kernel
theorem dX12_odds_36 : decode cX12_odds 36 = .ok (.iconst 0, 1) := by decide +kernel
theorem dX12_odds_37 : decode cX12_odds 37 = .ok (.invokevirtual 411, 3) := by decide +kernel
theorem dX12_odds_40 : decode cX12_odds 40 = .ok (.iconst 0, 1) := by decide +kernel
theorem dX12_odds_41 : decode cX12_odds 41 = .ok (.iload_n 3, 1) := by decide +kernel
theorem dX12_odds_42 : decode cX12_odds 42 = .ok (.iload 4, 2) := by decide +kernel
theorem dX12_odds_44 : decode cX12_odds 44 = .ok (.ldc_w 483, 3) := by decide +kernel
theorem dX12_odds_47 : decode cX12_odds 47 = .ok (.invokevirtual 479, 3) := by decide +kernel
theorem dX12_odds_50 : decode cX12_odds 50 = .ok (.ireturn, 1) := by decide +kernel
set_option maxRecDepth 20000 in
def kX12_odds_0 (g : sk_G) (d ck sk : Nat) (Q : sk_P) : sk_K := o_aload 0 (o_iload 1 (o_iload 2 (o_invB (g, d, ck, sk, xX12_odds, Q) xX12_isSpot 2 12 0 0 (o_ifeq (o_i (-1) (o_iret (g, d, ck, sk, xX12_odds, Q))) (o_iload 3 (o_i (0) (o_i (100) (o_stcT (g, d, ck, sk, xX12_odds, Q) 3 3 (fun Q => kX12_in_0 g (d - 1) 0 0 Q) (o_ifeq (o_i (-1) (o_iret (g, d, ck, sk, xX12_odds, Q))) (o_iload 4 (o_i (0) (o_i (16) (o_stcT (g, d, ck, sk, xX12_odds, Q) 3 3 (fun Q => kX12_in_0 g (d - 1) 0 0 Q) (o_ifne (o_aload 0 (o_aload 0 (o_iload 1 (o_iload 2 (o_i (0) (o_invB (g, d, ck, sk, xX12_odds, Q) xX12_manyWho 3 12 0 0 (o_i (0) (o_iload 3 (o_iload 4 (o_i (1000000000) (o_invB (g, d, ck, sk, xX12_odds, Q) xX12_oddsFrom 5 12 0 0 (o_iret (g, d, ck, sk, xX12_odds, Q))))))))))))) (o_i (-1) (o_iret (g, d, ck, sk, xX12_odds, Q)))))))))))))))))
set_option maxRecDepth 20000 in
theorem tX12_odds_0 {g : sk_G} {d ck sk : Nat} {Q : sk_P} : sk_S (g, d, ck, sk, xX12_odds, Q) 0 (kX12_odds_0 g d ck sk Q) := s_aload_n dX12_odds_0 rfl (s_iload_n dX12_odds_1 rfl (s_iload_n dX12_odds_2 rfl (s_invB (w' := (g, d, ck, sk, xX12_odds, Q)) (ci := 12) (ck := 0) (sk := 0) (T := TX12) (N := 49) dX12_odds_3 m_X12_isSpot rfl (by decide) qm_X12_408 qi_X12_isSpot qe_X12_isSpot rfl (s_ifeq (tgt := 30) dX12_odds_6 (by decide) (s_iconst dX12_odds_30 (s_iret dX12_odds_31 rfl)) (s_iload_n dX12_odds_9 rfl (s_iconst dX12_odds_10 (s_bipush dX12_odds_11 rfl (s_stcT (X := xX12_in) (K := (fun Q => kX12_in_0 g (d - 1) 0 0 Q)) (fun _ => tX12_in_0) rfl dX12_odds_13 m_X12_in qm_X12_224 qs_X12_in (s_ifeq (tgt := 30) dX12_odds_16 (by decide) (s_iconst dX12_odds_30 (s_iret dX12_odds_31 rfl)) (s_iload dX12_odds_19 (s_iconst dX12_odds_21 (s_bipush dX12_odds_22 rfl (s_stcT (X := xX12_in) (K := (fun Q => kX12_in_0 g (d - 1) 0 0 Q)) (fun _ => tX12_in_0) rfl dX12_odds_24 m_X12_in qm_X12_224 qs_X12_in (s_ifne (tgt := 32) dX12_odds_27 (by decide) (s_aload_n dX12_odds_32 rfl (s_aload_n dX12_odds_33 rfl (s_iload_n dX12_odds_34 rfl (s_iload_n dX12_odds_35 rfl (s_iconst dX12_odds_36 (s_invB (w' := (g, d, ck, sk, xX12_odds, Q)) (ci := 12) (ck := 0) (sk := 0) (T := TX12) (N := 49) dX12_odds_37 m_X12_manyWho rfl (by decide) qm_X12_411 qi_X12_manyWho qe_X12_manyWho rfl (s_iconst dX12_odds_40 (s_iload_n dX12_odds_41 rfl (s_iload dX12_odds_42 (s_ldcw dX12_odds_44 qk_X12_483 rfl (s_invB (w' := (g, d, ck, sk, xX12_odds, Q)) (ci := 12) (ck := 0) (sk := 0) (T := TX12) (N := 49) dX12_odds_47 m_X12_oddsFrom rfl (by decide) qm_X12_479 qi_X12_oddsFrom qe_X12_oddsFrom rfl (s_iret dX12_odds_50 rfl)))))))))))) (s_iconst dX12_odds_30 (s_iret dX12_odds_31 rfl))))))))))))))))
theorem dX12_oddsFrom_0 : decode cX12_oddsFrom 0 = .ok (.iload 5, 2) := by decide +kernel
theorem dX12_oddsFrom_2 : decode cX12_oddsFrom 2 = .ok (.ifCond .ne 5, 3) := by decide +kernel
theorem dX12_oddsFrom_5 : decode cX12_oddsFrom 5 = .ok (.iconst 0, 1) := by decide +kernel
theorem dX12_oddsFrom_6 : decode cX12_oddsFrom 6 = .ok (.ireturn, 1) := by decide +kernel
theorem dX12_oddsFrom_7 : decode cX12_oddsFrom 7 = .ok (.iload_n 1, 1) := by decide +kernel
theorem dX12_oddsFrom_8 : decode cX12_oddsFrom 8 = .ok (.ifCond .ne 16, 3) := by decide +kernel
theorem dX12_oddsFrom_11 : decode cX12_oddsFrom 11 = .ok (.iload_n 2, 1) := by decide +kernel
theorem dX12_oddsFrom_12 : decode cX12_oddsFrom 12 = .ok (.iload 4, 2) := by decide +kernel
theorem dX12_oddsFrom_14 : decode cX12_oddsFrom 14 = .ok (.if_icmp .lt 8, 3) := by decide +kernel
theorem dX12_oddsFrom_17 : decode cX12_oddsFrom 17 = .ok (.iload 5, 2) := by decide +kernel
theorem dX12_oddsFrom_19 : decode cX12_oddsFrom 19 = .ok (.goto 4, 3) := by decide +kernel
theorem dX12_oddsFrom_22 : decode cX12_oddsFrom 22 = .ok (.iconst 0, 1) := by decide +kernel
theorem dX12_oddsFrom_23 : decode cX12_oddsFrom 23 = .ok (.ireturn, 1) := by decide +kernel
theorem dX12_oddsFrom_24 : decode cX12_oddsFrom 24 = .ok (.iload 5, 2) := by decide +kernel
theorem dX12_oddsFrom_26 : decode cX12_oddsFrom 26 = .ok (.i2l, 1) := by decide +kernel
theorem dX12_oddsFrom_27 : decode cX12_oddsFrom 27 = .ok (.iload_n 3, 1) := by decide +kernel
theorem dX12_oddsFrom_28 : decode cX12_oddsFrom 28 = .ok (.i2l, 1) := by decide +kernel
theorem dX12_oddsFrom_29 : decode cX12_oddsFrom 29 = .ok (.lmul, 1) := by decide +kernel
theorem dX12_oddsFrom_30 : decode cX12_oddsFrom 30 = .ok (.ldc2_w 477, 3) := by decide +kernel
theorem dX12_oddsFrom_33 : decode cX12_oddsFrom 33 = .ok (.ldiv, 1) := by decide +kernel
theorem dX12_oddsFrom_34 : decode cX12_oddsFrom 34 = .ok (.l2i, 1) := by decide +kernel
theorem dX12_oddsFrom_35 : decode cX12_oddsFrom 35 = .ok (.istore 6, 2) := by decide +kernel
theorem dX12_oddsFrom_37 : decode cX12_oddsFrom 37 = .ok (.aload_n 0, 1) := by decide +kernel
theorem dX12_oddsFrom_38 : decode cX12_oddsFrom 38 = .ok (.iload_n 1, 1) := by decide +kernel
theorem dX12_oddsFrom_39 : decode cX12_oddsFrom 39 = .ok (.iconst 1, 1) := by decide +kernel
theorem dX12_oddsFrom_40 : decode cX12_oddsFrom 40 = .ok (.isub, 1) := by decide +kernel
theorem dX12_oddsFrom_41 : decode cX12_oddsFrom 41 = .ok (.iload_n 2, 1) := by decide +kernel
theorem dX12_oddsFrom_42 : decode cX12_oddsFrom 42 = .ok (.iload_n 3, 1) := by decide +kernel
theorem dX12_oddsFrom_43 : decode cX12_oddsFrom 43 = .ok (.iload 4, 2) := by decide +kernel
theorem dX12_oddsFrom_45 : decode cX12_oddsFrom 45 = .ok (.iload 6, 2) := by decide +kernel
theorem dX12_oddsFrom_47 : decode cX12_oddsFrom 47 = .ok (.invokevirtual 479, 3) := by decide +kernel
theorem dX12_oddsFrom_50 : decode cX12_oddsFrom 50 = .ok (.aload_n 0, 1) := by decide +kernel
theorem dX12_oddsFrom_51 : decode cX12_oddsFrom 51 = .ok (.iload_n 1, 1) := by decide +kernel
theorem dX12_oddsFrom_52 : decode cX12_oddsFrom 52 = .ok (.iconst 1, 1) := by decide +kernel
theorem dX12_oddsFrom_53 : decode cX12_oddsFrom 53 = .ok (.isub, 1) := by decide +kernel
theorem dX12_oddsFrom_54 : decode cX12_oddsFrom 54 = .ok (.iload_n 2, 1) := by decide +kernel
theorem dX12_oddsFrom_55 : decode cX12_oddsFrom 55 = .ok (.iconst 1, 1) := by decide +kernel
theorem dX12_oddsFrom_56 : decode cX12_oddsFrom 56 = .ok (.iadd, 1) := by decide +kernel
theorem dX12_oddsFrom_57 : decode cX12_oddsFrom 57 = .ok (.iload_n 3, 1) := by decide +kernel
theorem dX12_oddsFrom_58 : decode cX12_oddsFrom 58 = .ok (.iload 4, 2) := by decide +kernel
theorem dX12_oddsFrom_60 : decode cX12_oddsFrom 60 = .ok (.iload 5, 2) := by decide +kernel
theorem dX12_oddsFrom_62 : decode cX12_oddsFrom 62 = .ok (.iload 6, 2) := by decide +kernel
theorem dX12_oddsFrom_64 : decode cX12_oddsFrom 64 = .ok (.isub, 1) := by decide +kernel
theorem dX12_oddsFrom_65 : decode cX12_oddsFrom 65 = .ok (.invokevirtual 479, 3) := by decide +kernel
theorem dX12_oddsFrom_68 : decode cX12_oddsFrom 68 = .ok (.iadd, 1) := by decide +kernel
theorem dX12_oddsFrom_69 : decode cX12_oddsFrom 69 = .ok (.ireturn, 1) := by decide +kernel
set_option maxRecDepth 20000 in
def kX12_oddsFrom_0 (g : sk_G) (d ck sk : Nat) (Q : sk_P) : sk_K := o_iload 5 (o_ifne (o_iload 1 (o_ifne (o_iload 5 (o_i2l (o_iload 3 (o_i2l (o_lmul (o_l (100) (o_ldiv (o_l2i (o_istore 6 (o_aload 0 (o_iload 1 (o_i (1) (o_isub (o_iload 2 (o_iload 3 (o_iload 4 (o_iload 6 (o_invB (g, d, ck, sk, xX12_oddsFrom, Q) xX12_oddsFrom 5 12 0 0 (o_aload 0 (o_iload 1 (o_i (1) (o_isub (o_iload 2 (o_i (1) (o_iadd (o_iload 3 (o_iload 4 (o_iload 5 (o_iload 6 (o_isub (o_invB (g, d, ck, sk, xX12_oddsFrom, Q) xX12_oddsFrom 5 12 0 0 (o_iadd (o_iret (g, d, ck, sk, xX12_oddsFrom, Q)))))))))))))))))))))))))))))))))) (o_iload 2 (o_iload 4 (o_iclt (o_i (0) (o_iret (g, d, ck, sk, xX12_oddsFrom, Q))) (o_iload 5 (o_iret (g, d, ck, sk, xX12_oddsFrom, Q)))))))) (o_i (0) (o_iret (g, d, ck, sk, xX12_oddsFrom, Q))))
set_option maxRecDepth 20000 in
theorem tX12_oddsFrom_0 {g : sk_G} {d ck sk : Nat} {Q : sk_P} : sk_S (g, d, ck, sk, xX12_oddsFrom, Q) 0 (kX12_oddsFrom_0 g d ck sk Q) := s_iload dX12_oddsFrom_0 (s_ifne (tgt := 7) dX12_oddsFrom_2 (by decide) (s_iload_n dX12_oddsFrom_7 rfl (s_ifne (tgt := 24) dX12_oddsFrom_8 (by decide) (s_iload dX12_oddsFrom_24 (s_i2l dX12_oddsFrom_26 (s_iload_n dX12_oddsFrom_27 rfl (s_i2l dX12_oddsFrom_28 (s_lmul dX12_oddsFrom_29 (s_ldc2 dX12_oddsFrom_30 qk_X12_477 rfl (s_ldiv dX12_oddsFrom_33 (s_l2i dX12_oddsFrom_34 (s_istore dX12_oddsFrom_35 (by decide : 6 < 7) (s_aload_n dX12_oddsFrom_37 rfl (s_iload_n dX12_oddsFrom_38 rfl (s_iconst dX12_oddsFrom_39 (s_isub dX12_oddsFrom_40 (s_iload_n dX12_oddsFrom_41 rfl (s_iload_n dX12_oddsFrom_42 rfl (s_iload dX12_oddsFrom_43 (s_iload dX12_oddsFrom_45 (s_invB (w' := (g, d, ck, sk, xX12_oddsFrom, Q)) (ci := 12) (ck := 0) (sk := 0) (T := TX12) (N := 49) dX12_oddsFrom_47 m_X12_oddsFrom rfl (by decide) qm_X12_479 qi_X12_oddsFrom qe_X12_oddsFrom rfl (s_aload_n dX12_oddsFrom_50 rfl (s_iload_n dX12_oddsFrom_51 rfl (s_iconst dX12_oddsFrom_52 (s_isub dX12_oddsFrom_53 (s_iload_n dX12_oddsFrom_54 rfl (s_iconst dX12_oddsFrom_55 (s_iadd dX12_oddsFrom_56 (s_iload_n dX12_oddsFrom_57 rfl (s_iload dX12_oddsFrom_58 (s_iload dX12_oddsFrom_60 (s_iload dX12_oddsFrom_62 (s_isub dX12_oddsFrom_64 (s_invB (w' := (g, d, ck, sk, xX12_oddsFrom, Q)) (ci := 12) (ck := 0) (sk := 0) (T := TX12) (N := 49) dX12_oddsFrom_65 m_X12_oddsFrom rfl (by decide) qm_X12_479 qi_X12_oddsFrom qe_X12_oddsFrom rfl (s_iadd dX12_oddsFrom_68 (s_iret dX12_oddsFrom_69 rfl))))))))))))))))))))))))))))))))) (s_iload_n dX12_oddsFrom_11 rfl (s_iload dX12_oddsFrom_12 (s_iclt (tgt := 22) dX12_oddsFrom_14 (by decide) (s_iconst dX12_oddsFrom_22 (s_iret dX12_oddsFrom_23 rfl)) (s_iload dX12_oddsFrom_17 (s_goto (tgt := 23) dX12_oddsFrom_19 (by decide) (s_iret dX12_oddsFrom_23 rfl)))))))) (s_iconst dX12_oddsFrom_5 (s_iret dX12_oddsFrom_6 rfl)))
theorem dX12_shares_0 : decode cX12_shares 0 = .ok (.aload_n 0, 1) := by decide +kernel
theorem dX12_shares_1 : decode cX12_shares 1 = .ok (.iload_n 1, 1) := by decide +kernel
theorem dX12_shares_2 : decode cX12_shares 2 = .ok (.invokevirtual 352, 3) := by decide +kernel
theorem dX12_shares_5 : decode cX12_shares 5 = .ok (.ifCond .eq 14, 3) := by decide +kernel
theorem dX12_shares_8 : decode cX12_shares 8 = .ok (.iload_n 2, 1) := by decide +kernel
theorem dX12_shares_9 : decode cX12_shares 9 = .ok (.iconst 0, 1) := by decide +kernel
theorem dX12_shares_10 : decode cX12_shares 10 = .ok (.sipush 999, 3) := by decide +kernel
theorem dX12_shares_13 : decode cX12_shares 13 = .ok (.invokestatic 224, 3) := by decide +kernel
theorem dX12_shares_16 : decode cX12_shares 16 = .ok (.ifCond .ne 5, 3) := by decide +kernel
theorem dX12_shares_19 : decode cX12_shares 19 = .ok (.iconst (-1), 1) := by decide +kernel
theorem dX12_shares_20 : decode cX12_shares 20 = .ok (.ireturn, 1) := by decide +kernel
theorem dX12_shares_21 : decode cX12_shares 21 = .ok (.aload_n 0, 1) := by decide +kernel
theorem dX12_shares_22 : decode cX12_shares 22 = .ok (.invokevirtual 330, 3) := by decide +kernel
theorem dX12_shares_25 : decode cX12_shares 25 = .ok (.istore_n 3, 1) := by decide +kernel
theorem dX12_shares_26 : decode cX12_shares 26 = .ok (.iload_n 3, 1) := by decide +kernel
theorem dX12_shares_27 : decode cX12_shares 27 = .ok (.ifCond .ne 7, 3) := by decide +kernel
theorem dX12_shares_30 : decode cX12_shares 30 = .ok (.iconst 0, 1) := by decide +kernel
theorem dX12_shares_31 : decode cX12_shares 31 = .ok (.goto 13, 3) := by decide +kernel
theorem dX12_shares_34 : decode cX12_shares 34 = .ok (.iload_n 2, 1) := by decide +kernel
theorem dX12_shares_35 : decode cX12_shares 35 = .ok (.aload_n 0, 1) := by decide +kernel
theorem dX12_shares_36 : decode cX12_shares 36 = .ok (.iload_n 1, 1) := by decide +kernel
theorem dX12_shares_37 : decode cX12_shares 37 = .ok (.iconst 1, 1) := by decide +kernel
theorem dX12_shares_38 : decode cX12_shares 38 = .ok (.invokevirtual 298, 3) := by decide +kernel
theorem dX12_shares_41 : decode cX12_shares 41 = .ok (.imul, 1) := by decide +kernel
theorem dX12_shares_42 : decode cX12_shares 42 = .ok (.iload_n 3, 1) := by decide +kernel
theorem dX12_shares_43 : decode cX12_shares 43 = .ok (.idiv, 1) := by decide +kernel
theorem dX12_shares_44 : decode cX12_shares 44 = .ok (.ireturn, 1) := by decide +kernel
set_option maxRecDepth 20000 in
def kX12_shares_0 (g : sk_G) (d ck sk : Nat) (Q : sk_P) : sk_K := o_aload 0 (o_iload 1 (o_invT (g, d, ck, sk, xX12_shares, Q) 2 1 12 (fun Q => kX12_isHand_0 g (d - 1) 0 0 Q) (o_ifeq (o_i (-1) (o_iret (g, d, ck, sk, xX12_shares, Q))) (o_iload 2 (o_i (0) (o_i (999) (o_stcT (g, d, ck, sk, xX12_shares, Q) 3 3 (fun Q => kX12_in_0 g (d - 1) 0 0 Q) (o_ifne (o_aload 0 (o_invB (g, d, ck, sk, xX12_shares, Q) xX12_strengthAll 0 12 0 0 (o_istore 3 (o_iload 3 (o_ifne (o_iload 2 (o_aload 0 (o_iload 1 (o_i (1) (o_invB (g, d, ck, sk, xX12_shares, Q) xX12_ofHand 2 12 0 0 (o_imul (o_iload 3 (o_idiv (o_iret (g, d, ck, sk, xX12_shares, Q)))))))))) (o_i (0) (o_iret (g, d, ck, sk, xX12_shares, Q)))))))) (o_i (-1) (o_iret (g, d, ck, sk, xX12_shares, Q)))))))))))
set_option maxRecDepth 20000 in
theorem tX12_shares_0 {g : sk_G} {d ck sk : Nat} {Q : sk_P} : sk_S (g, d, ck, sk, xX12_shares, Q) 0 (kX12_shares_0 g d ck sk Q) := s_aload_n dX12_shares_0 rfl (s_iload_n dX12_shares_1 rfl (s_invT (X := xX12_isHand) (ci := 12) (T := TX12) (N := 49) (K := (fun Q => kX12_isHand_0 g (d - 1) 0 0 Q)) (fun _ => tX12_isHand_0) rfl dX12_shares_2 m_X12_isHand rfl (by decide) qm_X12_352 qi_X12_isHand qe_X12_isHand (s_ifeq (tgt := 19) dX12_shares_5 (by decide) (s_iconst dX12_shares_19 (s_iret dX12_shares_20 rfl)) (s_iload_n dX12_shares_8 rfl (s_iconst dX12_shares_9 (s_sipush dX12_shares_10 rfl (s_stcT (X := xX12_in) (K := (fun Q => kX12_in_0 g (d - 1) 0 0 Q)) (fun _ => tX12_in_0) rfl dX12_shares_13 m_X12_in qm_X12_224 qs_X12_in (s_ifne (tgt := 21) dX12_shares_16 (by decide) (s_aload_n dX12_shares_21 rfl (s_invB (w' := (g, d, ck, sk, xX12_shares, Q)) (ci := 12) (ck := 0) (sk := 0) (T := TX12) (N := 49) dX12_shares_22 m_X12_strengthAll rfl (by decide) qm_X12_330 qi_X12_strengthAll qe_X12_strengthAll rfl (s_istore_n dX12_shares_25 rfl (by decide : 3 < 4) (s_iload_n dX12_shares_26 rfl (s_ifne (tgt := 34) dX12_shares_27 (by decide) (s_iload_n dX12_shares_34 rfl (s_aload_n dX12_shares_35 rfl (s_iload_n dX12_shares_36 rfl (s_iconst dX12_shares_37 (s_invB (w' := (g, d, ck, sk, xX12_shares, Q)) (ci := 12) (ck := 0) (sk := 0) (T := TX12) (N := 49) dX12_shares_38 m_X12_ofHand rfl (by decide) qm_X12_298 qi_X12_ofHand qe_X12_ofHand rfl (s_imul dX12_shares_41 (s_iload_n dX12_shares_42 rfl (s_idiv dX12_shares_43 (s_iret dX12_shares_44 rfl))))))))) (s_iconst dX12_shares_30 (s_goto (tgt := 44) dX12_shares_31 (by decide) (s_iret dX12_shares_44 rfl)))))))) (s_iconst dX12_shares_19 (s_iret dX12_shares_20 rfl))))))))))
theorem dX12_most_0 : decode cX12_most 0 = .ok (.aload_n 0, 1) := by decide +kernel
theorem dX12_most_1 : decode cX12_most 1 = .ok (.getfield 273, 3) := by decide +kernel
theorem dX12_most_4 : decode cX12_most 4 = .ok (.ifCond .eq 13, 3) := by decide +kernel
theorem dX12_most_7 : decode cX12_most 7 = .ok (.iload_n 1, 1) := by decide +kernel
theorem dX12_most_8 : decode cX12_most 8 = .ok (.iconst 0, 1) := by decide +kernel
theorem dX12_most_9 : decode cX12_most 9 = .ok (.bipush 9, 2) := by decide +kernel
theorem dX12_most_11 : decode cX12_most 11 = .ok (.invokestatic 224, 3) := by decide +kernel
theorem dX12_most_14 : decode cX12_most 14 = .ok (.ifCond .ne 5, 3) := by decide +kernel
theorem dX12_most_17 : decode cX12_most 17 = .ok (.iconst (-1), 1) := by decide +kernel
theorem dX12_most_18 : decode cX12_most 18 = .ok (.ireturn, 1) := by decide +kernel
theorem dX12_most_19 : decode cX12_most 19 = .ok (.iload_n 1, 1) := by decide +kernel
theorem dX12_most_20 : decode cX12_most 20 = .ok (.tableswitch 82 0 9 #[56, 61, 82, 82, 82, 66, 76, 71, 76, 76], 56) := by decide +kernel
theorem dX12_most_76 : decode cX12_most 76 = .ok (.aload_n 0, 1) := by decide +kernel
theorem dX12_most_77 : decode cX12_most 77 = .ok (.invokevirtual 373, 3) := by decide +kernel
theorem dX12_most_80 : decode cX12_most 80 = .ok (.ireturn, 1) := by decide +kernel
theorem dX12_most_81 : decode cX12_most 81 = .ok (.aload_n 0, 1) := by decide +kernel
theorem dX12_most_82 : decode cX12_most 82 = .ok (.invokevirtual 330, 3) := by decide +kernel
theorem dX12_most_85 : decode cX12_most 85 = .ok (.ireturn, 1) := by decide +kernel
theorem dX12_most_86 : decode cX12_most 86 = .ok (.aload_n 0, 1) := by decide +kernel
theorem dX12_most_87 : decode cX12_most 87 = .ok (.invokevirtual 490, 3) := by decide +kernel
theorem dX12_most_90 : decode cX12_most 90 = .ok (.ireturn, 1) := by decide +kernel
theorem dX12_most_91 : decode cX12_most 91 = .ok (.aload_n 0, 1) := by decide +kernel
theorem dX12_most_92 : decode cX12_most 92 = .ok (.invokevirtual 333, 3) := by decide +kernel
theorem dX12_most_95 : decode cX12_most 95 = .ok (.ireturn, 1) := by decide +kernel
theorem dX12_most_96 : decode cX12_most 96 = .ok (.aload_n 0, 1) := by decide +kernel
theorem dX12_most_97 : decode cX12_most 97 = .ok (.iload_n 1, 1) := by decide +kernel
theorem dX12_most_98 : decode cX12_most 98 = .ok (.invokevirtual 493, 3) := by decide +kernel
theorem dX12_most_101 : decode cX12_most 101 = .ok (.ireturn, 1) := by decide +kernel
theorem dX12_most_102 : decode cX12_most 102 = .ok (.aload_n 0, 1) := by decide +kernel
theorem dX12_most_103 : decode cX12_most 103 = .ok (.iload_n 1, 1) := by decide +kernel
theorem dX12_most_104 : decode cX12_most 104 = .ok (.invokevirtual 496, 3) := by decide +kernel
theorem dX12_most_107 : decode cX12_most 107 = .ok (.ireturn, 1) := by decide +kernel
set_option maxRecDepth 20000 in
def kX12_most_0 (g : sk_G) (d ck sk : Nat) (Q : sk_P) : sk_K := o_aload 0 (o_getf 12 23 (o_ifeq (o_i (-1) (o_iret (g, d, ck, sk, xX12_most, Q))) (o_iload 1 (o_i (0) (o_i (9) (o_stcT (g, d, ck, sk, xX12_most, Q) 3 3 (fun Q => kX12_in_0 g (d - 1) 0 0 Q) (o_ifne (o_iload 1 (o_tsw (0) [o_aload 0 (o_invB (g, d, ck, sk, xX12_most, Q) xX12_layerAll 0 12 0 0 (o_iret (g, d, ck, sk, xX12_most, Q))), o_aload 0 (o_invB (g, d, ck, sk, xX12_most, Q) xX12_strengthAll 0 12 0 0 (o_iret (g, d, ck, sk, xX12_most, Q))), o_aload 0 (o_iload 1 (o_invB (g, d, ck, sk, xX12_most, Q) xX12_topBy 1 12 0 0 (o_iret (g, d, ck, sk, xX12_most, Q)))), o_aload 0 (o_iload 1 (o_invB (g, d, ck, sk, xX12_most, Q) xX12_topBy 1 12 0 0 (o_iret (g, d, ck, sk, xX12_most, Q)))), o_aload 0 (o_iload 1 (o_invB (g, d, ck, sk, xX12_most, Q) xX12_topBy 1 12 0 0 (o_iret (g, d, ck, sk, xX12_most, Q)))), o_aload 0 (o_invB (g, d, ck, sk, xX12_most, Q) xX12_commonest 0 12 0 0 (o_iret (g, d, ck, sk, xX12_most, Q))), o_aload 0 (o_iload 1 (o_invB (g, d, ck, sk, xX12_most, Q) xX12_manyCells 1 12 0 0 (o_iret (g, d, ck, sk, xX12_most, Q)))), o_aload 0 (o_invB (g, d, ck, sk, xX12_most, Q) xX12_shownMany 0 12 0 0 (o_iret (g, d, ck, sk, xX12_most, Q))), o_aload 0 (o_iload 1 (o_invB (g, d, ck, sk, xX12_most, Q) xX12_manyCells 1 12 0 0 (o_iret (g, d, ck, sk, xX12_most, Q)))), o_aload 0 (o_iload 1 (o_invB (g, d, ck, sk, xX12_most, Q) xX12_manyCells 1 12 0 0 (o_iret (g, d, ck, sk, xX12_most, Q))))] (o_aload 0 (o_iload 1 (o_invB (g, d, ck, sk, xX12_most, Q) xX12_topBy 1 12 0 0 (o_iret (g, d, ck, sk, xX12_most, Q))))))) (o_i (-1) (o_iret (g, d, ck, sk, xX12_most, Q))))))))))
set_option maxRecDepth 20000 in
theorem tX12_most_0 {g : sk_G} {d ck sk : Nat} {Q : sk_P} : sk_S (g, d, ck, sk, xX12_most, Q) 0 (kX12_most_0 g d ck sk Q) := s_aload_n dX12_most_0 rfl (s_getf (ci := 12) (j := 23) (C := RX12) (T := TX12) (N := 49) dX12_most_1 rfl (by decide) (by decide) qf_X12_273 (s_ifeq (tgt := 17) dX12_most_4 (by decide) (s_iconst dX12_most_17 (s_iret dX12_most_18 rfl)) (s_iload_n dX12_most_7 rfl (s_iconst dX12_most_8 (s_bipush dX12_most_9 rfl (s_stcT (X := xX12_in) (K := (fun Q => kX12_in_0 g (d - 1) 0 0 Q)) (fun _ => tX12_in_0) rfl dX12_most_11 m_X12_in qm_X12_224 qs_X12_in (s_ifne (tgt := 19) dX12_most_14 (by decide) (s_iload_n dX12_most_19 rfl (s_tsw (td := 102) (tg := [76, 81, 102, 102, 102, 86, 96, 91, 96, 96]) (n := 10) dX12_most_20 rfl (by decide) (by decide) (by decide) (s_aload_n dX12_most_102 rfl (s_iload_n dX12_most_103 rfl (s_invB (w' := (g, d, ck, sk, xX12_most, Q)) (ci := 12) (ck := 0) (sk := 0) (T := TX12) (N := 49) dX12_most_104 m_X12_topBy rfl (by decide) qm_X12_496 qi_X12_topBy qe_X12_topBy rfl (s_iret dX12_most_107 rfl)))) (fun i off h => by
    match i, h with
    | 0, h => cases h; exact ⟨76, rfl, by decide⟩
    | 1, h => cases h; exact ⟨81, rfl, by decide⟩
    | 2, h => cases h; exact ⟨102, rfl, by decide⟩
    | 3, h => cases h; exact ⟨102, rfl, by decide⟩
    | 4, h => cases h; exact ⟨102, rfl, by decide⟩
    | 5, h => cases h; exact ⟨86, rfl, by decide⟩
    | 6, h => cases h; exact ⟨96, rfl, by decide⟩
    | 7, h => cases h; exact ⟨91, rfl, by decide⟩
    | 8, h => cases h; exact ⟨96, rfl, by decide⟩
    | 9, h => cases h; exact ⟨96, rfl, by decide⟩
    | i + 10, h => simp at h) (fun i a t hi ht => by
    match i, hi, ht with
    | 0, hi, ht => cases hi; cases ht; exact s_aload_n dX12_most_76 rfl (s_invB (w' := (g, d, ck, sk, xX12_most, Q)) (ci := 12) (ck := 0) (sk := 0) (T := TX12) (N := 49) dX12_most_77 m_X12_layerAll rfl (by decide) qm_X12_373 qi_X12_layerAll qe_X12_layerAll rfl (s_iret dX12_most_80 rfl))
    | 1, hi, ht => cases hi; cases ht; exact s_aload_n dX12_most_81 rfl (s_invB (w' := (g, d, ck, sk, xX12_most, Q)) (ci := 12) (ck := 0) (sk := 0) (T := TX12) (N := 49) dX12_most_82 m_X12_strengthAll rfl (by decide) qm_X12_330 qi_X12_strengthAll qe_X12_strengthAll rfl (s_iret dX12_most_85 rfl))
    | 2, hi, ht => cases hi; cases ht; exact s_aload_n dX12_most_102 rfl (s_iload_n dX12_most_103 rfl (s_invB (w' := (g, d, ck, sk, xX12_most, Q)) (ci := 12) (ck := 0) (sk := 0) (T := TX12) (N := 49) dX12_most_104 m_X12_topBy rfl (by decide) qm_X12_496 qi_X12_topBy qe_X12_topBy rfl (s_iret dX12_most_107 rfl)))
    | 3, hi, ht => cases hi; cases ht; exact s_aload_n dX12_most_102 rfl (s_iload_n dX12_most_103 rfl (s_invB (w' := (g, d, ck, sk, xX12_most, Q)) (ci := 12) (ck := 0) (sk := 0) (T := TX12) (N := 49) dX12_most_104 m_X12_topBy rfl (by decide) qm_X12_496 qi_X12_topBy qe_X12_topBy rfl (s_iret dX12_most_107 rfl)))
    | 4, hi, ht => cases hi; cases ht; exact s_aload_n dX12_most_102 rfl (s_iload_n dX12_most_103 rfl (s_invB (w' := (g, d, ck, sk, xX12_most, Q)) (ci := 12) (ck := 0) (sk := 0) (T := TX12) (N := 49) dX12_most_104 m_X12_topBy rfl (by decide) qm_X12_496 qi_X12_topBy qe_X12_topBy rfl (s_iret dX12_most_107 rfl)))
    | 5, hi, ht => cases hi; cases ht; exact s_aload_n dX12_most_86 rfl (s_invB (w' := (g, d, ck, sk, xX12_most, Q)) (ci := 12) (ck := 0) (sk := 0) (T := TX12) (N := 49) dX12_most_87 m_X12_commonest rfl (by decide) qm_X12_490 qi_X12_commonest qe_X12_commonest rfl (s_iret dX12_most_90 rfl))
    | 6, hi, ht => cases hi; cases ht; exact s_aload_n dX12_most_96 rfl (s_iload_n dX12_most_97 rfl (s_invB (w' := (g, d, ck, sk, xX12_most, Q)) (ci := 12) (ck := 0) (sk := 0) (T := TX12) (N := 49) dX12_most_98 m_X12_manyCells rfl (by decide) qm_X12_493 qi_X12_manyCells qe_X12_manyCells rfl (s_iret dX12_most_101 rfl)))
    | 7, hi, ht => cases hi; cases ht; exact s_aload_n dX12_most_91 rfl (s_invB (w' := (g, d, ck, sk, xX12_most, Q)) (ci := 12) (ck := 0) (sk := 0) (T := TX12) (N := 49) dX12_most_92 m_X12_shownMany rfl (by decide) qm_X12_333 qi_X12_shownMany qe_X12_shownMany rfl (s_iret dX12_most_95 rfl))
    | 8, hi, ht => cases hi; cases ht; exact s_aload_n dX12_most_96 rfl (s_iload_n dX12_most_97 rfl (s_invB (w' := (g, d, ck, sk, xX12_most, Q)) (ci := 12) (ck := 0) (sk := 0) (T := TX12) (N := 49) dX12_most_98 m_X12_manyCells rfl (by decide) qm_X12_493 qi_X12_manyCells qe_X12_manyCells rfl (s_iret dX12_most_101 rfl)))
    | 9, hi, ht => cases hi; cases ht; exact s_aload_n dX12_most_96 rfl (s_iload_n dX12_most_97 rfl (s_invB (w' := (g, d, ck, sk, xX12_most, Q)) (ci := 12) (ck := 0) (sk := 0) (T := TX12) (N := 49) dX12_most_98 m_X12_manyCells rfl (by decide) qm_X12_493 qi_X12_manyCells qe_X12_manyCells rfl (s_iret dX12_most_101 rfl)))
    | i + 10, hi, ht => simp at hi))) (s_iconst dX12_most_17 (s_iret dX12_most_18 rfl)))))))))
theorem dX12_commonest_0 : decode cX12_commonest 0 = .ok (.iconst 0, 1) := by decide +kernel
theorem dX12_commonest_1 : decode cX12_commonest 1 = .ok (.istore_n 1, 1) := by decide +kernel
theorem dX12_commonest_2 : decode cX12_commonest 2 = .ok (.iconst 1, 1) := by decide +kernel
theorem dX12_commonest_3 : decode cX12_commonest 3 = .ok (.istore_n 2, 1) := by decide +kernel
theorem dX12_commonest_4 : decode cX12_commonest 4 = .ok (.iload_n 2, 1) := by decide +kernel
theorem dX12_commonest_5 : decode cX12_commonest 5 = .ok (.bipush 26, 2) := by decide +kernel
theorem dX12_commonest_7 : decode cX12_commonest 7 = .ok (.if_icmp .ge 28, 3) := by decide +kernel
theorem dX12_commonest_10 : decode cX12_commonest 10 = .ok (.aload_n 0, 1) := by decide +kernel
theorem dX12_commonest_11 : decode cX12_commonest 11 = .ok (.iload_n 2, 1) := by decide +kernel
theorem dX12_commonest_12 : decode cX12_commonest 12 = .ok (.invokevirtual 484, 3) := by decide +kernel
theorem dX12_commonest_15 : decode cX12_commonest 15 = .ok (.aload_n 0, 1) := by decide +kernel
theorem dX12_commonest_16 : decode cX12_commonest 16 = .ok (.iload_n 1, 1) := by decide +kernel
theorem dX12_commonest_17 : decode cX12_commonest 17 = .ok (.invokevirtual 484, 3) := by decide +kernel
theorem dX12_commonest_20 : decode cX12_commonest 20 = .ok (.if_icmp .le 7, 3) := by decide +kernel
theorem dX12_commonest_23 : decode cX12_commonest 23 = .ok (.iload_n 2, 1) := by decide +kernel
theorem dX12_commonest_24 : decode cX12_commonest 24 = .ok (.goto 4, 3) := by decide +kernel
theorem dX12_commonest_27 : decode cX12_commonest 27 = .ok (.iload_n 1, 1) := by decide +kernel
theorem dX12_commonest_28 : decode cX12_commonest 28 = .ok (.istore_n 1, 1) := by decide +kernel
theorem dX12_commonest_29 : decode cX12_commonest 29 = .ok (.iinc 2 1, 3) := by decide +kernel
theorem dX12_commonest_32 : decode cX12_commonest 32 = .ok (.goto (-28), 3) := by decide +kernel
theorem dX12_commonest_35 : decode cX12_commonest 35 = .ok (.aload_n 0, 1) := by decide +kernel
theorem dX12_commonest_36 : decode cX12_commonest 36 = .ok (.invokevirtual 373, 3) := by decide +kernel
theorem dX12_commonest_39 : decode cX12_commonest 39 = .ok (.ifCond .ne 7, 3) := by decide +kernel
theorem dX12_commonest_42 : decode cX12_commonest 42 = .ok (.iconst (-1), 1) := by decide +kernel
theorem dX12_commonest_43 : decode cX12_commonest 43 = .ok (.goto 4, 3) := by decide +kernel
theorem dX12_commonest_46 : decode cX12_commonest 46 = .ok (.iload_n 1, 1) := by decide +kernel
theorem dX12_commonest_47 : decode cX12_commonest 47 = .ok (.ireturn, 1) := by decide +kernel
def kX12_commonest_0 (g : sk_G) (d ck sk : Nat) (Q : sk_P) : sk_K := o_i (0) (o_istore 1 (o_i (1) (o_istore 2 (sk_B (g, d, ck, sk, xX12_commonest, Q) 4))))
theorem tX12_commonest_0 {g : sk_G} {d ck sk : Nat} {Q : sk_P} : sk_S (g, d, ck, sk, xX12_commonest, Q) 0 (kX12_commonest_0 g d ck sk Q) := s_iconst dX12_commonest_0 (s_istore_n dX12_commonest_1 rfl (by decide : 1 < 3) (s_iconst dX12_commonest_2 (s_istore_n dX12_commonest_3 rfl (by decide : 2 < 3) (sk_id))))
set_option maxRecDepth 20000 in
def kX12_commonest_4 (g : sk_G) (d ck sk : Nat) (Q : sk_P) : sk_K := o_iload 2 (o_i (26) (o_icge (o_aload 0 (o_invB (g, d, ck, sk, xX12_commonest, Q) xX12_layerAll 0 12 0 0 (o_ifne (o_iload 1 (o_iret (g, d, ck, sk, xX12_commonest, Q))) (o_i (-1) (o_iret (g, d, ck, sk, xX12_commonest, Q)))))) (o_aload 0 (o_iload 2 (o_invB (g, d, ck, sk, xX12_commonest, Q) xX12_layersOfLetter 1 12 0 0 (o_aload 0 (o_iload 1 (o_invB (g, d, ck, sk, xX12_commonest, Q) xX12_layersOfLetter 1 12 0 0 (o_icle (o_iload 1 (o_istore 1 (o_iinc 2 (1) (sk_B (g, d, ck, sk, xX12_commonest, Q) 4)))) (o_iload 2 (o_istore 1 (o_iinc 2 (1) (sk_B (g, d, ck, sk, xX12_commonest, Q) 4)))))))))))))
set_option maxRecDepth 20000 in
theorem tX12_commonest_4 {g : sk_G} {d ck sk : Nat} {Q : sk_P} : sk_S (g, d, ck, sk, xX12_commonest, Q) 4 (kX12_commonest_4 g d ck sk Q) := s_iload_n dX12_commonest_4 rfl (s_bipush dX12_commonest_5 rfl (s_icge (tgt := 35) dX12_commonest_7 (by decide) (s_aload_n dX12_commonest_35 rfl (s_invB (w' := (g, d, ck, sk, xX12_commonest, Q)) (ci := 12) (ck := 0) (sk := 0) (T := TX12) (N := 49) dX12_commonest_36 m_X12_layerAll rfl (by decide) qm_X12_373 qi_X12_layerAll qe_X12_layerAll rfl (s_ifne (tgt := 46) dX12_commonest_39 (by decide) (s_iload_n dX12_commonest_46 rfl (s_iret dX12_commonest_47 rfl)) (s_iconst dX12_commonest_42 (s_goto (tgt := 47) dX12_commonest_43 (by decide) (s_iret dX12_commonest_47 rfl)))))) (s_aload_n dX12_commonest_10 rfl (s_iload_n dX12_commonest_11 rfl (s_invB (w' := (g, d, ck, sk, xX12_commonest, Q)) (ci := 12) (ck := 0) (sk := 0) (T := TX12) (N := 49) dX12_commonest_12 m_X12_layersOfLetter rfl (by decide) qm_X12_484 qi_X12_layersOfLetter qe_X12_layersOfLetter rfl (s_aload_n dX12_commonest_15 rfl (s_iload_n dX12_commonest_16 rfl (s_invB (w' := (g, d, ck, sk, xX12_commonest, Q)) (ci := 12) (ck := 0) (sk := 0) (T := TX12) (N := 49) dX12_commonest_17 m_X12_layersOfLetter rfl (by decide) qm_X12_484 qi_X12_layersOfLetter qe_X12_layersOfLetter rfl (s_icle (tgt := 27) dX12_commonest_20 (by decide) (s_iload_n dX12_commonest_27 rfl (s_istore_n dX12_commonest_28 rfl (by decide : 1 < 3) (s_iinc dX12_commonest_29 (by decide : 2 < 3) (s_goto (tgt := 4) dX12_commonest_32 (by decide) (sk_id))))) (s_iload_n dX12_commonest_23 rfl (s_goto (tgt := 28) dX12_commonest_24 (by decide) (s_istore_n dX12_commonest_28 rfl (by decide : 1 < 3) (s_iinc dX12_commonest_29 (by decide : 2 < 3) (s_goto (tgt := 4) dX12_commonest_32 (by decide) (sk_id)))))))))))))))
theorem dX12_layersOfLetter_0 : decode cX12_layersOfLetter 0 = .ok (.iconst 0, 1) := by decide +kernel
theorem dX12_layersOfLetter_1 : decode cX12_layersOfLetter 1 = .ok (.istore_n 2, 1) := by decide +kernel
theorem dX12_layersOfLetter_2 : decode cX12_layersOfLetter 2 = .ok (.iconst 0, 1) := by decide +kernel
theorem dX12_layersOfLetter_3 : decode cX12_layersOfLetter 3 = .ok (.istore_n 3, 1) := by decide +kernel
theorem dX12_layersOfLetter_4 : decode cX12_layersOfLetter 4 = .ok (.iload_n 3, 1) := by decide +kernel
theorem dX12_layersOfLetter_5 : decode cX12_layersOfLetter 5 = .ok (.aload_n 0, 1) := by decide +kernel
theorem dX12_layersOfLetter_6 : decode cX12_layersOfLetter 6 = .ok (.getfield 273, 3) := by decide +kernel
theorem dX12_layersOfLetter_9 : decode cX12_layersOfLetter 9 = .ok (.if_icmp .ge 51, 3) := by decide +kernel
theorem dX12_layersOfLetter_12 : decode cX12_layersOfLetter 12 = .ok (.iconst 0, 1) := by decide +kernel
theorem dX12_layersOfLetter_13 : decode cX12_layersOfLetter 13 = .ok (.istore 4, 2) := by decide +kernel
theorem dX12_layersOfLetter_15 : decode cX12_layersOfLetter 15 = .ok (.iload 4, 2) := by decide +kernel
theorem dX12_layersOfLetter_17 : decode cX12_layersOfLetter 17 = .ok (.aload_n 0, 1) := by decide +kernel
theorem dX12_layersOfLetter_18 : decode cX12_layersOfLetter 18 = .ok (.getfield 61, 3) := by decide +kernel
theorem dX12_layersOfLetter_21 : decode cX12_layersOfLetter 21 = .ok (.iconst 0, 1) := by decide +kernel
theorem dX12_layersOfLetter_22 : decode cX12_layersOfLetter 22 = .ok (.iload_n 3, 1) := by decide +kernel
theorem dX12_layersOfLetter_23 : decode cX12_layersOfLetter 23 = .ok (.iadd, 1) := by decide +kernel
theorem dX12_layersOfLetter_24 : decode cX12_layersOfLetter 24 = .ok (.iaload, 1) := by decide +kernel
theorem dX12_layersOfLetter_25 : decode cX12_layersOfLetter 25 = .ok (.if_icmp .ge 29, 3) := by decide +kernel
theorem dX12_layersOfLetter_28 : decode cX12_layersOfLetter 28 = .ok (.iload_n 2, 1) := by decide +kernel
theorem dX12_layersOfLetter_29 : decode cX12_layersOfLetter 29 = .ok (.aload_n 0, 1) := by decide +kernel
theorem dX12_layersOfLetter_30 : decode cX12_layersOfLetter 30 = .ok (.iload_n 3, 1) := by decide +kernel
theorem dX12_layersOfLetter_31 : decode cX12_layersOfLetter 31 = .ok (.iload 4, 2) := by decide +kernel
theorem dX12_layersOfLetter_33 : decode cX12_layersOfLetter 33 = .ok (.iconst 0, 1) := by decide +kernel
theorem dX12_layersOfLetter_34 : decode cX12_layersOfLetter 34 = .ok (.invokevirtual 295, 3) := by decide +kernel
theorem dX12_layersOfLetter_37 : decode cX12_layersOfLetter 37 = .ok (.iload_n 1, 1) := by decide +kernel
theorem dX12_layersOfLetter_38 : decode cX12_layersOfLetter 38 = .ok (.if_icmp .ne 7, 3) := by decide +kernel
theorem dX12_layersOfLetter_41 : decode cX12_layersOfLetter 41 = .ok (.iconst 1, 1) := by decide +kernel
theorem dX12_layersOfLetter_42 : decode cX12_layersOfLetter 42 = .ok (.goto 4, 3) := by decide +kernel
theorem dX12_layersOfLetter_45 : decode cX12_layersOfLetter 45 = .ok (.iconst 0, 1) := by decide +kernel
theorem dX12_layersOfLetter_46 : decode cX12_layersOfLetter 46 = .ok (.iadd, 1) := by decide +kernel
theorem dX12_layersOfLetter_47 : decode cX12_layersOfLetter 47 = .ok (.istore_n 2, 1) := by decide +kernel
theorem dX12_layersOfLetter_48 : decode cX12_layersOfLetter 48 = .ok (.iinc 4 1, 3) := by decide +kernel
theorem dX12_layersOfLetter_51 : decode cX12_layersOfLetter 51 = .ok (.goto (-36), 3) := by decide +kernel
theorem dX12_layersOfLetter_54 : decode cX12_layersOfLetter 54 = .ok (.iinc 3 1, 3) := by decide +kernel
theorem dX12_layersOfLetter_57 : decode cX12_layersOfLetter 57 = .ok (.goto (-53), 3) := by decide +kernel
theorem dX12_layersOfLetter_60 : decode cX12_layersOfLetter 60 = .ok (.iload_n 2, 1) := by decide +kernel
theorem dX12_layersOfLetter_61 : decode cX12_layersOfLetter 61 = .ok (.ireturn, 1) := by decide +kernel
def kX12_layersOfLetter_0 (g : sk_G) (d ck sk : Nat) (Q : sk_P) : sk_K := o_i (0) (o_istore 2 (o_i (0) (o_istore 3 (sk_B (g, d, ck, sk, xX12_layersOfLetter, Q) 4))))
theorem tX12_layersOfLetter_0 {g : sk_G} {d ck sk : Nat} {Q : sk_P} : sk_S (g, d, ck, sk, xX12_layersOfLetter, Q) 0 (kX12_layersOfLetter_0 g d ck sk Q) := s_iconst dX12_layersOfLetter_0 (s_istore_n dX12_layersOfLetter_1 rfl (by decide : 2 < 5) (s_iconst dX12_layersOfLetter_2 (s_istore_n dX12_layersOfLetter_3 rfl (by decide : 3 < 5) (sk_id))))
def kX12_layersOfLetter_4 (g : sk_G) (d ck sk : Nat) (Q : sk_P) : sk_K := o_iload 3 (o_aload 0 (o_getf 12 23 (o_icge (o_iload 2 (o_iret (g, d, ck, sk, xX12_layersOfLetter, Q))) (o_i (0) (o_istore 4 (sk_B (g, d, ck, sk, xX12_layersOfLetter, Q) 15))))))
theorem tX12_layersOfLetter_4 {g : sk_G} {d ck sk : Nat} {Q : sk_P} : sk_S (g, d, ck, sk, xX12_layersOfLetter, Q) 4 (kX12_layersOfLetter_4 g d ck sk Q) := s_iload_n dX12_layersOfLetter_4 rfl (s_aload_n dX12_layersOfLetter_5 rfl (s_getf (ci := 12) (j := 23) (C := RX12) (T := TX12) (N := 49) dX12_layersOfLetter_6 rfl (by decide) (by decide) qf_X12_273 (s_icge (tgt := 60) dX12_layersOfLetter_9 (by decide) (s_iload_n dX12_layersOfLetter_60 rfl (s_iret dX12_layersOfLetter_61 rfl)) (s_iconst dX12_layersOfLetter_12 (s_istore dX12_layersOfLetter_13 (by decide : 4 < 5) (sk_id))))))
set_option maxRecDepth 20000 in
def kX12_layersOfLetter_15 (g : sk_G) (d ck sk : Nat) (Q : sk_P) : sk_K := o_iload 4 (o_aload 0 (o_getf 12 28 (o_i (0) (o_iload 3 (o_iadd (o_iaload (o_icge (o_iinc 3 (1) (sk_B (g, d, ck, sk, xX12_layersOfLetter, Q) 4)) (o_iload 2 (o_aload 0 (o_iload 3 (o_iload 4 (o_i (0) (o_invT (g, d, ck, sk, xX12_layersOfLetter, Q) 4 3 12 (fun Q => kX12_of_0 g (d - 1) 0 0 Q) (o_iload 1 (o_icne (o_i (0) (o_iadd (o_istore 2 (o_iinc 4 (1) (sk_B (g, d, ck, sk, xX12_layersOfLetter, Q) 15))))) (o_i (1) (o_iadd (o_istore 2 (o_iinc 4 (1) (sk_B (g, d, ck, sk, xX12_layersOfLetter, Q) 15))))))))))))))))))))
set_option maxRecDepth 20000 in
theorem tX12_layersOfLetter_15 {g : sk_G} {d ck sk : Nat} {Q : sk_P} : sk_S (g, d, ck, sk, xX12_layersOfLetter, Q) 15 (kX12_layersOfLetter_15 g d ck sk Q) := s_iload dX12_layersOfLetter_15 (s_aload_n dX12_layersOfLetter_17 rfl (s_getf (ci := 12) (j := 28) (C := RX12) (T := TX12) (N := 49) dX12_layersOfLetter_18 rfl (by decide) (by decide) qf_X12_61 (s_iconst dX12_layersOfLetter_21 (s_iload_n dX12_layersOfLetter_22 rfl (s_iadd dX12_layersOfLetter_23 (s_iaload dX12_layersOfLetter_24 (s_icge (tgt := 54) dX12_layersOfLetter_25 (by decide) (s_iinc dX12_layersOfLetter_54 (by decide : 3 < 5) (s_goto (tgt := 4) dX12_layersOfLetter_57 (by decide) (sk_id))) (s_iload_n dX12_layersOfLetter_28 rfl (s_aload_n dX12_layersOfLetter_29 rfl (s_iload_n dX12_layersOfLetter_30 rfl (s_iload dX12_layersOfLetter_31 (s_iconst dX12_layersOfLetter_33 (s_invT (X := xX12_of) (ci := 12) (T := TX12) (N := 49) (K := (fun Q => kX12_of_0 g (d - 1) 0 0 Q)) (fun _ => tX12_of_0) rfl dX12_layersOfLetter_34 m_X12_of rfl (by decide) qm_X12_295 qi_X12_of qe_X12_of (s_iload_n dX12_layersOfLetter_37 rfl (s_icne (tgt := 45) dX12_layersOfLetter_38 (by decide) (s_iconst dX12_layersOfLetter_45 (s_iadd dX12_layersOfLetter_46 (s_istore_n dX12_layersOfLetter_47 rfl (by decide : 2 < 5) (s_iinc dX12_layersOfLetter_48 (by decide : 4 < 5) (s_goto (tgt := 15) dX12_layersOfLetter_51 (by decide) (sk_id)))))) (s_iconst dX12_layersOfLetter_41 (s_goto (tgt := 46) dX12_layersOfLetter_42 (by decide) (s_iadd dX12_layersOfLetter_46 (s_istore_n dX12_layersOfLetter_47 rfl (by decide : 2 < 5) (s_iinc dX12_layersOfLetter_48 (by decide : 4 < 5) (s_goto (tgt := 15) dX12_layersOfLetter_51 (by decide) (sk_id))))))))))))))))))))))
theorem dX12_manyCells_0 : decode cX12_manyCells 0 = .ok (.iconst 0, 1) := by decide +kernel
theorem dX12_manyCells_1 : decode cX12_manyCells 1 = .ok (.istore_n 2, 1) := by decide +kernel
theorem dX12_manyCells_2 : decode cX12_manyCells 2 = .ok (.iconst 0, 1) := by decide +kernel
theorem dX12_manyCells_3 : decode cX12_manyCells 3 = .ok (.istore_n 3, 1) := by decide +kernel
theorem dX12_manyCells_4 : decode cX12_manyCells 4 = .ok (.iload_n 3, 1) := by decide +kernel
theorem dX12_manyCells_5 : decode cX12_manyCells 5 = .ok (.aload_n 0, 1) := by decide +kernel
theorem dX12_manyCells_6 : decode cX12_manyCells 6 = .ok (.getfield 273, 3) := by decide +kernel
theorem dX12_manyCells_9 : decode cX12_manyCells 9 = .ok (.if_icmp .ge 62, 3) := by decide +kernel
theorem dX12_manyCells_12 : decode cX12_manyCells 12 = .ok (.iload_n 2, 1) := by decide +kernel
theorem dX12_manyCells_13 : decode cX12_manyCells 13 = .ok (.iload_n 1, 1) := by decide +kernel
theorem dX12_manyCells_14 : decode cX12_manyCells 14 = .ok (.bipush 6, 2) := by decide +kernel
theorem dX12_manyCells_16 : decode cX12_manyCells 16 = .ok (.if_icmp .ne 17, 3) := by decide +kernel
theorem dX12_manyCells_19 : decode cX12_manyCells 19 = .ok (.aload_n 0, 1) := by decide +kernel
theorem dX12_manyCells_20 : decode cX12_manyCells 20 = .ok (.getfield 61, 3) := by decide +kernel
theorem dX12_manyCells_23 : decode cX12_manyCells 23 = .ok (.iconst 0, 1) := by decide +kernel
theorem dX12_manyCells_24 : decode cX12_manyCells 24 = .ok (.iload_n 3, 1) := by decide +kernel
theorem dX12_manyCells_25 : decode cX12_manyCells 25 = .ok (.iadd, 1) := by decide +kernel
theorem dX12_manyCells_26 : decode cX12_manyCells 26 = .ok (.iaload, 1) := by decide +kernel
theorem dX12_manyCells_27 : decode cX12_manyCells 27 = .ok (.ifCond .ne 35, 3) := by decide +kernel
theorem dX12_manyCells_30 : decode cX12_manyCells 30 = .ok (.goto 28, 3) := by decide +kernel
theorem dX12_manyCells_33 : decode cX12_manyCells 33 = .ok (.iload_n 1, 1) := by decide +kernel
theorem dX12_manyCells_34 : decode cX12_manyCells 34 = .ok (.bipush 8, 2) := by decide +kernel
theorem dX12_manyCells_36 : decode cX12_manyCells 36 = .ok (.if_icmp .ne 14, 3) := by decide +kernel
theorem dX12_manyCells_39 : decode cX12_manyCells 39 = .ok (.aload_n 0, 1) := by decide +kernel
theorem dX12_manyCells_40 : decode cX12_manyCells 40 = .ok (.iload_n 3, 1) := by decide +kernel
theorem dX12_manyCells_41 : decode cX12_manyCells 41 = .ok (.invokevirtual 461, 3) := by decide +kernel
theorem dX12_manyCells_44 : decode cX12_manyCells 44 = .ok (.ifCond .eq 18, 3) := by decide +kernel
theorem dX12_manyCells_47 : decode cX12_manyCells 47 = .ok (.goto 11, 3) := by decide +kernel
theorem dX12_manyCells_50 : decode cX12_manyCells 50 = .ok (.aload_n 0, 1) := by decide +kernel
theorem dX12_manyCells_51 : decode cX12_manyCells 51 = .ok (.iload_n 3, 1) := by decide +kernel
theorem dX12_manyCells_52 : decode cX12_manyCells 52 = .ok (.invokevirtual 487, 3) := by decide +kernel
theorem dX12_manyCells_55 : decode cX12_manyCells 55 = .ok (.ifCond .eq 7, 3) := by decide +kernel
theorem dX12_manyCells_58 : decode cX12_manyCells 58 = .ok (.iconst 1, 1) := by decide +kernel
theorem dX12_manyCells_59 : decode cX12_manyCells 59 = .ok (.goto 4, 3) := by decide +kernel
theorem dX12_manyCells_62 : decode cX12_manyCells 62 = .ok (.iconst 0, 1) := by decide +kernel
theorem dX12_manyCells_63 : decode cX12_manyCells 63 = .ok (.iadd, 1) := by decide +kernel
theorem dX12_manyCells_64 : decode cX12_manyCells 64 = .ok (.istore_n 2, 1) := by decide +kernel
theorem dX12_manyCells_65 : decode cX12_manyCells 65 = .ok (.iinc 3 1, 3) := by decide +kernel
theorem dX12_manyCells_68 : decode cX12_manyCells 68 = .ok (.goto (-64), 3) := by decide +kernel
theorem dX12_manyCells_71 : decode cX12_manyCells 71 = .ok (.iload_n 2, 1) := by decide +kernel
theorem dX12_manyCells_72 : decode cX12_manyCells 72 = .ok (.ireturn, 1) := by decide +kernel
def kX12_manyCells_0 (g : sk_G) (d ck sk : Nat) (Q : sk_P) : sk_K := o_i (0) (o_istore 2 (o_i (0) (o_istore 3 (sk_B (g, d, ck, sk, xX12_manyCells, Q) 4))))
theorem tX12_manyCells_0 {g : sk_G} {d ck sk : Nat} {Q : sk_P} : sk_S (g, d, ck, sk, xX12_manyCells, Q) 0 (kX12_manyCells_0 g d ck sk Q) := s_iconst dX12_manyCells_0 (s_istore_n dX12_manyCells_1 rfl (by decide : 2 < 4) (s_iconst dX12_manyCells_2 (s_istore_n dX12_manyCells_3 rfl (by decide : 3 < 4) (sk_id))))
set_option maxRecDepth 20000 in
def kX12_manyCells_4 (g : sk_G) (d ck sk : Nat) (Q : sk_P) : sk_K := o_iload 3 (o_aload 0 (o_getf 12 23 (o_icge (o_iload 2 (o_iret (g, d, ck, sk, xX12_manyCells, Q))) (o_iload 2 (o_iload 1 (o_i (6) (o_icne (o_iload 1 (o_i (8) (o_icne (o_aload 0 (o_iload 3 (o_invB (g, d, ck, sk, xX12_manyCells, Q) xX12_isPure 1 12 0 0 (o_ifeq (o_i (0) (o_iadd (o_istore 2 (o_iinc 3 (1) (sk_B (g, d, ck, sk, xX12_manyCells, Q) 4))))) (o_i (1) (o_iadd (o_istore 2 (o_iinc 3 (1) (sk_B (g, d, ck, sk, xX12_manyCells, Q) 4))))))))) (o_aload 0 (o_iload 3 (o_invB (g, d, ck, sk, xX12_manyCells, Q) xX12_isBeneath 1 12 0 0 (o_ifeq (o_i (0) (o_iadd (o_istore 2 (o_iinc 3 (1) (sk_B (g, d, ck, sk, xX12_manyCells, Q) 4))))) (o_i (1) (o_iadd (o_istore 2 (o_iinc 3 (1) (sk_B (g, d, ck, sk, xX12_manyCells, Q) 4)))))))))))) (o_aload 0 (o_getf 12 28 (o_i (0) (o_iload 3 (o_iadd (o_iaload (o_ifne (o_i (0) (o_iadd (o_istore 2 (o_iinc 3 (1) (sk_B (g, d, ck, sk, xX12_manyCells, Q) 4))))) (o_i (1) (o_iadd (o_istore 2 (o_iinc 3 (1) (sk_B (g, d, ck, sk, xX12_manyCells, Q) 4)))))))))))))))))))
set_option maxRecDepth 20000 in
theorem tX12_manyCells_4 {g : sk_G} {d ck sk : Nat} {Q : sk_P} : sk_S (g, d, ck, sk, xX12_manyCells, Q) 4 (kX12_manyCells_4 g d ck sk Q) := s_iload_n dX12_manyCells_4 rfl (s_aload_n dX12_manyCells_5 rfl (s_getf (ci := 12) (j := 23) (C := RX12) (T := TX12) (N := 49) dX12_manyCells_6 rfl (by decide) (by decide) qf_X12_273 (s_icge (tgt := 71) dX12_manyCells_9 (by decide) (s_iload_n dX12_manyCells_71 rfl (s_iret dX12_manyCells_72 rfl)) (s_iload_n dX12_manyCells_12 rfl (s_iload_n dX12_manyCells_13 rfl (s_bipush dX12_manyCells_14 rfl (s_icne (tgt := 33) dX12_manyCells_16 (by decide) (s_iload_n dX12_manyCells_33 rfl (s_bipush dX12_manyCells_34 rfl (s_icne (tgt := 50) dX12_manyCells_36 (by decide) (s_aload_n dX12_manyCells_50 rfl (s_iload_n dX12_manyCells_51 rfl (s_invB (w' := (g, d, ck, sk, xX12_manyCells, Q)) (ci := 12) (ck := 0) (sk := 0) (T := TX12) (N := 49) dX12_manyCells_52 m_X12_isPure rfl (by decide) qm_X12_487 qi_X12_isPure qe_X12_isPure rfl (s_ifeq (tgt := 62) dX12_manyCells_55 (by decide) (s_iconst dX12_manyCells_62 (s_iadd dX12_manyCells_63 (s_istore_n dX12_manyCells_64 rfl (by decide : 2 < 4) (s_iinc dX12_manyCells_65 (by decide : 3 < 4) (s_goto (tgt := 4) dX12_manyCells_68 (by decide) (sk_id)))))) (s_iconst dX12_manyCells_58 (s_goto (tgt := 63) dX12_manyCells_59 (by decide) (s_iadd dX12_manyCells_63 (s_istore_n dX12_manyCells_64 rfl (by decide : 2 < 4) (s_iinc dX12_manyCells_65 (by decide : 3 < 4) (s_goto (tgt := 4) dX12_manyCells_68 (by decide) (sk_id))))))))))) (s_aload_n dX12_manyCells_39 rfl (s_iload_n dX12_manyCells_40 rfl (s_invB (w' := (g, d, ck, sk, xX12_manyCells, Q)) (ci := 12) (ck := 0) (sk := 0) (T := TX12) (N := 49) dX12_manyCells_41 m_X12_isBeneath rfl (by decide) qm_X12_461 qi_X12_isBeneath qe_X12_isBeneath rfl (s_ifeq (tgt := 62) dX12_manyCells_44 (by decide) (s_iconst dX12_manyCells_62 (s_iadd dX12_manyCells_63 (s_istore_n dX12_manyCells_64 rfl (by decide : 2 < 4) (s_iinc dX12_manyCells_65 (by decide : 3 < 4) (s_goto (tgt := 4) dX12_manyCells_68 (by decide) (sk_id)))))) (s_goto (tgt := 58) dX12_manyCells_47 (by decide) (s_iconst dX12_manyCells_58 (s_goto (tgt := 63) dX12_manyCells_59 (by decide) (s_iadd dX12_manyCells_63 (s_istore_n dX12_manyCells_64 rfl (by decide : 2 < 4) (s_iinc dX12_manyCells_65 (by decide : 3 < 4) (s_goto (tgt := 4) dX12_manyCells_68 (by decide) (sk_id))))))))))))))) (s_aload_n dX12_manyCells_19 rfl (s_getf (ci := 12) (j := 28) (C := RX12) (T := TX12) (N := 49) dX12_manyCells_20 rfl (by decide) (by decide) qf_X12_61 (s_iconst dX12_manyCells_23 (s_iload_n dX12_manyCells_24 rfl (s_iadd dX12_manyCells_25 (s_iaload dX12_manyCells_26 (s_ifne (tgt := 62) dX12_manyCells_27 (by decide) (s_iconst dX12_manyCells_62 (s_iadd dX12_manyCells_63 (s_istore_n dX12_manyCells_64 rfl (by decide : 2 < 4) (s_iinc dX12_manyCells_65 (by decide : 3 < 4) (s_goto (tgt := 4) dX12_manyCells_68 (by decide) (sk_id)))))) (s_goto (tgt := 58) dX12_manyCells_30 (by decide) (s_iconst dX12_manyCells_58 (s_goto (tgt := 63) dX12_manyCells_59 (by decide) (s_iadd dX12_manyCells_63 (s_istore_n dX12_manyCells_64 rfl (by decide : 2 < 4) (s_iinc dX12_manyCells_65 (by decide : 3 < 4) (s_goto (tgt := 4) dX12_manyCells_68 (by decide) (sk_id))))))))))))))))))))))
theorem dX12_isPure_0 : decode cX12_isPure 0 = .ok (.aload_n 0, 1) := by decide +kernel
theorem dX12_isPure_1 : decode cX12_isPure 1 = .ok (.getfield 61, 3) := by decide +kernel
theorem dX12_isPure_4 : decode cX12_isPure 4 = .ok (.iconst 0, 1) := by decide +kernel
theorem dX12_isPure_5 : decode cX12_isPure 5 = .ok (.iload_n 1, 1) := by decide +kernel
theorem dX12_isPure_6 : decode cX12_isPure 6 = .ok (.iadd, 1) := by decide +kernel
theorem dX12_isPure_7 : decode cX12_isPure 7 = .ok (.iaload, 1) := by decide +kernel
theorem dX12_isPure_8 : decode cX12_isPure 8 = .ok (.ifCond .le 7, 3) := by decide +kernel
theorem dX12_isPure_11 : decode cX12_isPure 11 = .ok (.iconst 1, 1) := by decide +kernel
theorem dX12_isPure_12 : decode cX12_isPure 12 = .ok (.goto 4, 3) := by decide +kernel
theorem dX12_isPure_15 : decode cX12_isPure 15 = .ok (.iconst 0, 1) := by decide +kernel
theorem dX12_isPure_16 : decode cX12_isPure 16 = .ok (.istore_n 2, 1) := by decide +kernel
theorem dX12_isPure_17 : decode cX12_isPure 17 = .ok (.iconst 1, 1) := by decide +kernel
theorem dX12_isPure_18 : decode cX12_isPure 18 = .ok (.istore_n 3, 1) := by decide +kernel
theorem dX12_isPure_19 : decode cX12_isPure 19 = .ok (.iload_n 3, 1) := by decide +kernel
theorem dX12_isPure_20 : decode cX12_isPure 20 = .ok (.aload_n 0, 1) := by decide +kernel
theorem dX12_isPure_21 : decode cX12_isPure 21 = .ok (.getfield 61, 3) := by decide +kernel
theorem dX12_isPure_24 : decode cX12_isPure 24 = .ok (.iconst 0, 1) := by decide +kernel
theorem dX12_isPure_25 : decode cX12_isPure 25 = .ok (.iload_n 1, 1) := by decide +kernel
theorem dX12_isPure_26 : decode cX12_isPure 26 = .ok (.iadd, 1) := by decide +kernel
theorem dX12_isPure_27 : decode cX12_isPure 27 = .ok (.iaload, 1) := by decide +kernel
theorem dX12_isPure_28 : decode cX12_isPure 28 = .ok (.if_icmp .ge 36, 3) := by decide +kernel
theorem dX12_isPure_31 : decode cX12_isPure 31 = .ok (.iload_n 2, 1) := by decide +kernel
theorem dX12_isPure_32 : decode cX12_isPure 32 = .ok (.ifCond .eq 24, 3) := by decide +kernel
theorem dX12_isPure_35 : decode cX12_isPure 35 = .ok (.aload_n 0, 1) := by decide +kernel
theorem dX12_isPure_36 : decode cX12_isPure 36 = .ok (.iload_n 1, 1) := by decide +kernel
theorem dX12_isPure_37 : decode cX12_isPure 37 = .ok (.iload_n 3, 1) := by decide +kernel
theorem dX12_isPure_38 : decode cX12_isPure 38 = .ok (.iconst 1, 1) := by decide +kernel
theorem dX12_isPure_39 : decode cX12_isPure 39 = .ok (.invokevirtual 295, 3) := by decide +kernel
theorem dX12_isPure_42 : decode cX12_isPure 42 = .ok (.aload_n 0, 1) := by decide +kernel
theorem dX12_isPure_43 : decode cX12_isPure 43 = .ok (.iload_n 1, 1) := by decide +kernel
theorem dX12_isPure_44 : decode cX12_isPure 44 = .ok (.iconst 0, 1) := by decide +kernel
theorem dX12_isPure_45 : decode cX12_isPure 45 = .ok (.iconst 1, 1) := by decide +kernel
theorem dX12_isPure_46 : decode cX12_isPure 46 = .ok (.invokevirtual 295, 3) := by decide +kernel
theorem dX12_isPure_49 : decode cX12_isPure 49 = .ok (.if_icmp .ne 7, 3) := by decide +kernel
theorem dX12_isPure_52 : decode cX12_isPure 52 = .ok (.iconst 1, 1) := by decide +kernel
theorem dX12_isPure_53 : decode cX12_isPure 53 = .ok (.goto 4, 3) := by decide +kernel
theorem dX12_isPure_56 : decode cX12_isPure 56 = .ok (.iconst 0, 1) := by decide +kernel
theorem dX12_isPure_57 : decode cX12_isPure 57 = .ok (.istore_n 2, 1) := by decide +kernel
theorem dX12_isPure_58 : decode cX12_isPure 58 = .ok (.iinc 3 1, 3) := by decide +kernel
theorem dX12_isPure_61 : decode cX12_isPure 61 = .ok (.goto (-42), 3) := by decide +kernel
theorem dX12_isPure_64 : decode cX12_isPure 64 = .ok (.iload_n 2, 1) := by decide +kernel
theorem dX12_isPure_65 : decode cX12_isPure 65 = .ok (.ireturn, 1) := by decide +kernel
def kX12_isPure_0 (g : sk_G) (d ck sk : Nat) (Q : sk_P) : sk_K := o_aload 0 (o_getf 12 28 (o_i (0) (o_iload 1 (o_iadd (o_iaload (o_ifle (o_i (0) (o_istore 2 (o_i (1) (o_istore 3 (sk_B (g, d, ck, sk, xX12_isPure, Q) 19))))) (o_i (1) (o_istore 2 (o_i (1) (o_istore 3 (sk_B (g, d, ck, sk, xX12_isPure, Q) 19)))))))))))
theorem tX12_isPure_0 {g : sk_G} {d ck sk : Nat} {Q : sk_P} : sk_S (g, d, ck, sk, xX12_isPure, Q) 0 (kX12_isPure_0 g d ck sk Q) := s_aload_n dX12_isPure_0 rfl (s_getf (ci := 12) (j := 28) (C := RX12) (T := TX12) (N := 49) dX12_isPure_1 rfl (by decide) (by decide) qf_X12_61 (s_iconst dX12_isPure_4 (s_iload_n dX12_isPure_5 rfl (s_iadd dX12_isPure_6 (s_iaload dX12_isPure_7 (s_ifle (tgt := 15) dX12_isPure_8 (by decide) (s_iconst dX12_isPure_15 (s_istore_n dX12_isPure_16 rfl (by decide : 2 < 4) (s_iconst dX12_isPure_17 (s_istore_n dX12_isPure_18 rfl (by decide : 3 < 4) (sk_id))))) (s_iconst dX12_isPure_11 (s_goto (tgt := 16) dX12_isPure_12 (by decide) (s_istore_n dX12_isPure_16 rfl (by decide : 2 < 4) (s_iconst dX12_isPure_17 (s_istore_n dX12_isPure_18 rfl (by decide : 3 < 4) (sk_id))))))))))))
set_option maxRecDepth 20000 in
def kX12_isPure_19 (g : sk_G) (d ck sk : Nat) (Q : sk_P) : sk_K := o_iload 3 (o_aload 0 (o_getf 12 28 (o_i (0) (o_iload 1 (o_iadd (o_iaload (o_icge (o_iload 2 (o_zret (g, d, ck, sk, xX12_isPure, Q))) (o_iload 2 (o_ifeq (o_i (0) (o_istore 2 (o_iinc 3 (1) (sk_B (g, d, ck, sk, xX12_isPure, Q) 19)))) (o_aload 0 (o_iload 1 (o_iload 3 (o_i (1) (o_invT (g, d, ck, sk, xX12_isPure, Q) 4 3 12 (fun Q => kX12_of_0 g (d - 1) 0 0 Q) (o_aload 0 (o_iload 1 (o_i (0) (o_i (1) (o_invT (g, d, ck, sk, xX12_isPure, Q) 4 3 12 (fun Q => kX12_of_0 g (d - 1) 0 0 Q) (o_icne (o_i (0) (o_istore 2 (o_iinc 3 (1) (sk_B (g, d, ck, sk, xX12_isPure, Q) 19)))) (o_i (1) (o_istore 2 (o_iinc 3 (1) (sk_B (g, d, ck, sk, xX12_isPure, Q) 19))))))))))))))))))))))))
set_option maxRecDepth 20000 in
theorem tX12_isPure_19 {g : sk_G} {d ck sk : Nat} {Q : sk_P} : sk_S (g, d, ck, sk, xX12_isPure, Q) 19 (kX12_isPure_19 g d ck sk Q) := s_iload_n dX12_isPure_19 rfl (s_aload_n dX12_isPure_20 rfl (s_getf (ci := 12) (j := 28) (C := RX12) (T := TX12) (N := 49) dX12_isPure_21 rfl (by decide) (by decide) qf_X12_61 (s_iconst dX12_isPure_24 (s_iload_n dX12_isPure_25 rfl (s_iadd dX12_isPure_26 (s_iaload dX12_isPure_27 (s_icge (tgt := 64) dX12_isPure_28 (by decide) (s_iload_n dX12_isPure_64 rfl (s_zret dX12_isPure_65 rfl)) (s_iload_n dX12_isPure_31 rfl (s_ifeq (tgt := 56) dX12_isPure_32 (by decide) (s_iconst dX12_isPure_56 (s_istore_n dX12_isPure_57 rfl (by decide : 2 < 4) (s_iinc dX12_isPure_58 (by decide : 3 < 4) (s_goto (tgt := 19) dX12_isPure_61 (by decide) (sk_id))))) (s_aload_n dX12_isPure_35 rfl (s_iload_n dX12_isPure_36 rfl (s_iload_n dX12_isPure_37 rfl (s_iconst dX12_isPure_38 (s_invT (X := xX12_of) (ci := 12) (T := TX12) (N := 49) (K := (fun Q => kX12_of_0 g (d - 1) 0 0 Q)) (fun _ => tX12_of_0) rfl dX12_isPure_39 m_X12_of rfl (by decide) qm_X12_295 qi_X12_of qe_X12_of (s_aload_n dX12_isPure_42 rfl (s_iload_n dX12_isPure_43 rfl (s_iconst dX12_isPure_44 (s_iconst dX12_isPure_45 (s_invT (X := xX12_of) (ci := 12) (T := TX12) (N := 49) (K := (fun Q => kX12_of_0 g (d - 1) 0 0 Q)) (fun _ => tX12_of_0) rfl dX12_isPure_46 m_X12_of rfl (by decide) qm_X12_295 qi_X12_of qe_X12_of (s_icne (tgt := 56) dX12_isPure_49 (by decide) (s_iconst dX12_isPure_56 (s_istore_n dX12_isPure_57 rfl (by decide : 2 < 4) (s_iinc dX12_isPure_58 (by decide : 3 < 4) (s_goto (tgt := 19) dX12_isPure_61 (by decide) (sk_id))))) (s_iconst dX12_isPure_52 (s_goto (tgt := 57) dX12_isPure_53 (by decide) (s_istore_n dX12_isPure_57 rfl (by decide : 2 < 4) (s_iinc dX12_isPure_58 (by decide : 3 < 4) (s_goto (tgt := 19) dX12_isPure_61 (by decide) (sk_id))))))))))))))))))))))))))
theorem dX12_topBy_0 : decode cX12_topBy 0 = .ok (.iconst 0, 1) := by decide +kernel
theorem dX12_topBy_1 : decode cX12_topBy 1 = .ok (.istore_n 2, 1) := by decide +kernel
theorem dX12_topBy_2 : decode cX12_topBy 2 = .ok (.iload_n 1, 1) := by decide +kernel
theorem dX12_topBy_3 : decode cX12_topBy 3 = .ok (.iconst 2, 1) := by decide +kernel
theorem dX12_topBy_4 : decode cX12_topBy 4 = .ok (.if_icmp .ne 10, 3) := by decide +kernel
theorem dX12_topBy_7 : decode cX12_topBy 7 = .ok (.aload_n 0, 1) := by decide +kernel
theorem dX12_topBy_8 : decode cX12_topBy 8 = .ok (.getfield 273, 3) := by decide +kernel
theorem dX12_topBy_11 : decode cX12_topBy 11 = .ok (.goto 21, 3) := by decide +kernel
theorem dX12_topBy_14 : decode cX12_topBy 14 = .ok (.iload_n 1, 1) := by decide +kernel
theorem dX12_topBy_15 : decode cX12_topBy 15 = .ok (.iconst 3, 1) := by decide +kernel
theorem dX12_topBy_16 : decode cX12_topBy 16 = .ok (.if_icmp .ne 12, 3) := by decide +kernel
theorem dX12_topBy_19 : decode cX12_topBy 19 = .ok (.aload_n 0, 1) := by decide +kernel
theorem dX12_topBy_20 : decode cX12_topBy 20 = .ok (.getfield 46, 3) := by decide +kernel
theorem dX12_topBy_23 : decode cX12_topBy 23 = .ok (.iconst 1, 1) := by decide +kernel
theorem dX12_topBy_24 : decode cX12_topBy 24 = .ok (.iaload, 1) := by decide +kernel
theorem dX12_topBy_25 : decode cX12_topBy 25 = .ok (.goto 7, 3) := by decide +kernel
theorem dX12_topBy_28 : decode cX12_topBy 28 = .ok (.aload_n 0, 1) := by decide +kernel
theorem dX12_topBy_29 : decode cX12_topBy 29 = .ok (.getfield 270, 3) := by decide +kernel
theorem dX12_topBy_32 : decode cX12_topBy 32 = .ok (.istore_n 3, 1) := by decide +kernel
theorem dX12_topBy_33 : decode cX12_topBy 33 = .ok (.iconst 1, 1) := by decide +kernel
theorem dX12_topBy_34 : decode cX12_topBy 34 = .ok (.istore 4, 2) := by decide +kernel
theorem dX12_topBy_36 : decode cX12_topBy 36 = .ok (.iload 4, 2) := by decide +kernel
theorem dX12_topBy_38 : decode cX12_topBy 38 = .ok (.iload_n 3, 1) := by decide +kernel
theorem dX12_topBy_39 : decode cX12_topBy 39 = .ok (.if_icmp .ge 83, 3) := by decide +kernel
theorem dX12_topBy_42 : decode cX12_topBy 42 = .ok (.iload_n 1, 1) := by decide +kernel
theorem dX12_topBy_43 : decode cX12_topBy 43 = .ok (.iconst 2, 1) := by decide +kernel
theorem dX12_topBy_44 : decode cX12_topBy 44 = .ok (.if_icmp .ne 24, 3) := by decide +kernel
theorem dX12_topBy_47 : decode cX12_topBy 47 = .ok (.aload_n 0, 1) := by decide +kernel
theorem dX12_topBy_48 : decode cX12_topBy 48 = .ok (.getfield 61, 3) := by decide +kernel
theorem dX12_topBy_51 : decode cX12_topBy 51 = .ok (.iconst 0, 1) := by decide +kernel
theorem dX12_topBy_52 : decode cX12_topBy 52 = .ok (.iload 4, 2) := by decide +kernel
theorem dX12_topBy_54 : decode cX12_topBy 54 = .ok (.iadd, 1) := by decide +kernel
theorem dX12_topBy_55 : decode cX12_topBy 55 = .ok (.iaload, 1) := by decide +kernel
theorem dX12_topBy_56 : decode cX12_topBy 56 = .ok (.aload_n 0, 1) := by decide +kernel
theorem dX12_topBy_57 : decode cX12_topBy 57 = .ok (.getfield 61, 3) := by decide +kernel
theorem dX12_topBy_60 : decode cX12_topBy 60 = .ok (.iconst 0, 1) := by decide +kernel
theorem dX12_topBy_61 : decode cX12_topBy 61 = .ok (.iload_n 2, 1) := by decide +kernel
theorem dX12_topBy_62 : decode cX12_topBy 62 = .ok (.iadd, 1) := by decide +kernel
theorem dX12_topBy_63 : decode cX12_topBy 63 = .ok (.iaload, 1) := by decide +kernel
theorem dX12_topBy_64 : decode cX12_topBy 64 = .ok (.isub, 1) := by decide +kernel
theorem dX12_topBy_65 : decode cX12_topBy 65 = .ok (.goto 37, 3) := by decide +kernel
theorem dX12_topBy_68 : decode cX12_topBy 68 = .ok (.iload_n 1, 1) := by decide +kernel
theorem dX12_topBy_69 : decode cX12_topBy 69 = .ok (.iconst 3, 1) := by decide +kernel
theorem dX12_topBy_70 : decode cX12_topBy 70 = .ok (.if_icmp .ne 18, 3) := by decide +kernel
theorem dX12_topBy_73 : decode cX12_topBy 73 = .ok (.aload_n 0, 1) := by decide +kernel
theorem dX12_topBy_74 : decode cX12_topBy 74 = .ok (.iload 4, 2) := by decide +kernel
theorem dX12_topBy_76 : decode cX12_topBy 76 = .ok (.invokevirtual 379, 3) := by decide +kernel
theorem dX12_topBy_79 : decode cX12_topBy 79 = .ok (.aload_n 0, 1) := by decide +kernel
theorem dX12_topBy_80 : decode cX12_topBy 80 = .ok (.iload_n 2, 1) := by decide +kernel
theorem dX12_topBy_81 : decode cX12_topBy 81 = .ok (.invokevirtual 379, 3) := by decide +kernel
theorem dX12_topBy_84 : decode cX12_topBy 84 = .ok (.isub, 1) := by decide +kernel
theorem dX12_topBy_85 : decode cX12_topBy 85 = .ok (.goto 17, 3) := by decide +kernel
theorem dX12_topBy_88 : decode cX12_topBy 88 = .ok (.aload_n 0, 1) := by decide +kernel
theorem dX12_topBy_89 : decode cX12_topBy 89 = .ok (.iload 4, 2) := by decide +kernel
theorem dX12_topBy_91 : decode cX12_topBy 91 = .ok (.iconst 0, 1) := by decide +kernel
theorem dX12_topBy_92 : decode cX12_topBy 92 = .ok (.invokevirtual 298, 3) := by decide +kernel
theorem dX12_topBy_95 : decode cX12_topBy 95 = .ok (.aload_n 0, 1) := by decide +kernel
theorem dX12_topBy_96 : decode cX12_topBy 96 = .ok (.iload_n 2, 1) := by decide +kernel
theorem dX12_topBy_97 : decode cX12_topBy 97 = .ok (.iconst 0, 1) := by decide +kernel
theorem dX12_topBy_98 : decode cX12_topBy 98 = .ok (.invokevirtual 298, 3) := by decide +kernel
theorem dX12_topBy_101 : decode cX12_topBy 101 = .ok (.isub, 1) := by decide +kernel
theorem dX12_topBy_102 : decode cX12_topBy 102 = .ok (.istore 5, 2) := by decide +kernel
theorem dX12_topBy_104 : decode cX12_topBy 104 = .ok (.iload 5, 2) := by decide +kernel
theorem dX12_topBy_106 : decode cX12_topBy 106 = .ok (.ifCond .le 8, 3) := by decide +kernel
theorem dX12_topBy_109 : decode cX12_topBy 109 = .ok (.iload 4, 2) := by decide +kernel
theorem dX12_topBy_111 : decode cX12_topBy 111 = .ok (.goto 4, 3) := by decide +kernel
theorem dX12_topBy_114 : decode cX12_topBy 114 = .ok (.iload_n 2, 1) := by decide +kernel
theorem dX12_topBy_115 : decode cX12_topBy 115 = .ok (.istore_n 2, 1) := by decide +kernel
theorem dX12_topBy_116 : decode cX12_topBy 116 = .ok (.iinc 4 1, 3) := by decide +kernel
theorem dX12_topBy_119 : decode cX12_topBy 119 = .ok (.goto (-83), 3) := by decide +kernel
theorem dX12_topBy_122 : decode cX12_topBy 122 = .ok (.iload_n 2, 1) := by decide +kernel
theorem dX12_topBy_123 : decode cX12_topBy 123 = .ok (.ireturn, 1) := by decide +kernel
set_option maxRecDepth 20000 in
def kX12_topBy_0 (g : sk_G) (d ck sk : Nat) (Q : sk_P) : sk_K := o_i (0) (o_istore 2 (o_iload 1 (o_i (2) (o_icne (o_iload 1 (o_i (3) (o_icne (o_aload 0 (o_getf 12 22 (o_istore 3 (o_i (1) (o_istore 4 (sk_B (g, d, ck, sk, xX12_topBy, Q) 36)))))) (o_aload 0 (o_getf 12 20 (o_i (1) (o_iaload (o_istore 3 (o_i (1) (o_istore 4 (sk_B (g, d, ck, sk, xX12_topBy, Q) 36))))))))))) (o_aload 0 (o_getf 12 23 (o_istore 3 (o_i (1) (o_istore 4 (sk_B (g, d, ck, sk, xX12_topBy, Q) 36))))))))))
set_option maxRecDepth 20000 in
theorem tX12_topBy_0 {g : sk_G} {d ck sk : Nat} {Q : sk_P} : sk_S (g, d, ck, sk, xX12_topBy, Q) 0 (kX12_topBy_0 g d ck sk Q) := s_iconst dX12_topBy_0 (s_istore_n dX12_topBy_1 rfl (by decide : 2 < 6) (s_iload_n dX12_topBy_2 rfl (s_iconst dX12_topBy_3 (s_icne (tgt := 14) dX12_topBy_4 (by decide) (s_iload_n dX12_topBy_14 rfl (s_iconst dX12_topBy_15 (s_icne (tgt := 28) dX12_topBy_16 (by decide) (s_aload_n dX12_topBy_28 rfl (s_getf (ci := 12) (j := 22) (C := RX12) (T := TX12) (N := 49) dX12_topBy_29 rfl (by decide) (by decide) qf_X12_270 (s_istore_n dX12_topBy_32 rfl (by decide : 3 < 6) (s_iconst dX12_topBy_33 (s_istore dX12_topBy_34 (by decide : 4 < 6) (sk_id)))))) (s_aload_n dX12_topBy_19 rfl (s_getf (ci := 12) (j := 20) (C := RX12) (T := TX12) (N := 49) dX12_topBy_20 rfl (by decide) (by decide) qf_X12_46 (s_iconst dX12_topBy_23 (s_iaload dX12_topBy_24 (s_goto (tgt := 32) dX12_topBy_25 (by decide) (s_istore_n dX12_topBy_32 rfl (by decide : 3 < 6) (s_iconst dX12_topBy_33 (s_istore dX12_topBy_34 (by decide : 4 < 6) (sk_id)))))))))))) (s_aload_n dX12_topBy_7 rfl (s_getf (ci := 12) (j := 23) (C := RX12) (T := TX12) (N := 49) dX12_topBy_8 rfl (by decide) (by decide) qf_X12_273 (s_goto (tgt := 32) dX12_topBy_11 (by decide) (s_istore_n dX12_topBy_32 rfl (by decide : 3 < 6) (s_iconst dX12_topBy_33 (s_istore dX12_topBy_34 (by decide : 4 < 6) (sk_id)))))))))))
set_option maxRecDepth 20000 in
def kX12_topBy_36 (g : sk_G) (d ck sk : Nat) (Q : sk_P) : sk_K := o_iload 4 (o_iload 3 (o_icge (o_iload 2 (o_iret (g, d, ck, sk, xX12_topBy, Q))) (o_iload 1 (o_i (2) (o_icne (o_iload 1 (o_i (3) (o_icne (o_aload 0 (o_iload 4 (o_i (0) (o_invB (g, d, ck, sk, xX12_topBy, Q) xX12_ofHand 2 12 0 0 (o_aload 0 (o_iload 2 (o_i (0) (o_invB (g, d, ck, sk, xX12_topBy, Q) xX12_ofHand 2 12 0 0 (o_isub (sk_B (g, d, ck, sk, xX12_topBy, Q) 102)))))))))) (o_aload 0 (o_iload 4 (o_invB (g, d, ck, sk, xX12_topBy, Q) xX12_layersOf 1 12 0 0 (o_aload 0 (o_iload 2 (o_invB (g, d, ck, sk, xX12_topBy, Q) xX12_layersOf 1 12 0 0 (o_isub (sk_B (g, d, ck, sk, xX12_topBy, Q) 102))))))))))) (o_aload 0 (o_getf 12 28 (o_i (0) (o_iload 4 (o_iadd (o_iaload (o_aload 0 (o_getf 12 28 (o_i (0) (o_iload 2 (o_iadd (o_iaload (o_isub (sk_B (g, d, ck, sk, xX12_topBy, Q) 102)))))))))))))))))))
set_option maxRecDepth 20000 in
theorem tX12_topBy_36 {g : sk_G} {d ck sk : Nat} {Q : sk_P} : sk_S (g, d, ck, sk, xX12_topBy, Q) 36 (kX12_topBy_36 g d ck sk Q) := s_iload dX12_topBy_36 (s_iload_n dX12_topBy_38 rfl (s_icge (tgt := 122) dX12_topBy_39 (by decide) (s_iload_n dX12_topBy_122 rfl (s_iret dX12_topBy_123 rfl)) (s_iload_n dX12_topBy_42 rfl (s_iconst dX12_topBy_43 (s_icne (tgt := 68) dX12_topBy_44 (by decide) (s_iload_n dX12_topBy_68 rfl (s_iconst dX12_topBy_69 (s_icne (tgt := 88) dX12_topBy_70 (by decide) (s_aload_n dX12_topBy_88 rfl (s_iload dX12_topBy_89 (s_iconst dX12_topBy_91 (s_invB (w' := (g, d, ck, sk, xX12_topBy, Q)) (ci := 12) (ck := 0) (sk := 0) (T := TX12) (N := 49) dX12_topBy_92 m_X12_ofHand rfl (by decide) qm_X12_298 qi_X12_ofHand qe_X12_ofHand rfl (s_aload_n dX12_topBy_95 rfl (s_iload_n dX12_topBy_96 rfl (s_iconst dX12_topBy_97 (s_invB (w' := (g, d, ck, sk, xX12_topBy, Q)) (ci := 12) (ck := 0) (sk := 0) (T := TX12) (N := 49) dX12_topBy_98 m_X12_ofHand rfl (by decide) qm_X12_298 qi_X12_ofHand qe_X12_ofHand rfl (s_isub dX12_topBy_101 (sk_id)))))))))) (s_aload_n dX12_topBy_73 rfl (s_iload dX12_topBy_74 (s_invB (w' := (g, d, ck, sk, xX12_topBy, Q)) (ci := 12) (ck := 0) (sk := 0) (T := TX12) (N := 49) dX12_topBy_76 m_X12_layersOf rfl (by decide) qm_X12_379 qi_X12_layersOf qe_X12_layersOf rfl (s_aload_n dX12_topBy_79 rfl (s_iload_n dX12_topBy_80 rfl (s_invB (w' := (g, d, ck, sk, xX12_topBy, Q)) (ci := 12) (ck := 0) (sk := 0) (T := TX12) (N := 49) dX12_topBy_81 m_X12_layersOf rfl (by decide) qm_X12_379 qi_X12_layersOf qe_X12_layersOf rfl (s_isub dX12_topBy_84 (s_goto (tgt := 102) dX12_topBy_85 (by decide) (sk_id)))))))))))) (s_aload_n dX12_topBy_47 rfl (s_getf (ci := 12) (j := 28) (C := RX12) (T := TX12) (N := 49) dX12_topBy_48 rfl (by decide) (by decide) qf_X12_61 (s_iconst dX12_topBy_51 (s_iload dX12_topBy_52 (s_iadd dX12_topBy_54 (s_iaload dX12_topBy_55 (s_aload_n dX12_topBy_56 rfl (s_getf (ci := 12) (j := 28) (C := RX12) (T := TX12) (N := 49) dX12_topBy_57 rfl (by decide) (by decide) qf_X12_61 (s_iconst dX12_topBy_60 (s_iload_n dX12_topBy_61 rfl (s_iadd dX12_topBy_62 (s_iaload dX12_topBy_63 (s_isub dX12_topBy_64 (s_goto (tgt := 102) dX12_topBy_65 (by decide) (sk_id))))))))))))))))))))
def kX12_topBy_102 (g : sk_G) (d ck sk : Nat) (Q : sk_P) : sk_K := o_istore 5 (o_iload 5 (o_ifle (o_iload 2 (o_istore 2 (o_iinc 4 (1) (sk_B (g, d, ck, sk, xX12_topBy, Q) 36)))) (o_iload 4 (o_istore 2 (o_iinc 4 (1) (sk_B (g, d, ck, sk, xX12_topBy, Q) 36))))))
theorem tX12_topBy_102 {g : sk_G} {d ck sk : Nat} {Q : sk_P} : sk_S (g, d, ck, sk, xX12_topBy, Q) 102 (kX12_topBy_102 g d ck sk Q) := s_istore dX12_topBy_102 (by decide : 5 < 6) (s_iload dX12_topBy_104 (s_ifle (tgt := 114) dX12_topBy_106 (by decide) (s_iload_n dX12_topBy_114 rfl (s_istore_n dX12_topBy_115 rfl (by decide : 2 < 6) (s_iinc dX12_topBy_116 (by decide : 4 < 6) (s_goto (tgt := 36) dX12_topBy_119 (by decide) (sk_id))))) (s_iload dX12_topBy_109 (s_goto (tgt := 115) dX12_topBy_111 (by decide) (s_istore_n dX12_topBy_115 rfl (by decide : 2 < 6) (s_iinc dX12_topBy_116 (by decide : 4 < 6) (s_goto (tgt := 36) dX12_topBy_119 (by decide) (sk_id))))))))
theorem dX12_image_0 : decode cX12_image 0 = .ok (.aload_n 0, 1) := by decide +kernel
theorem dX12_image_1 : decode cX12_image 1 = .ok (.getfield 273, 3) := by decide +kernel
theorem dX12_image_4 : decode cX12_image 4 = .ok (.ifCond .ne 5, 3) := by decide +kernel
theorem dX12_image_7 : decode cX12_image 7 = .ok (.iconst (-1), 1) := by decide +kernel
theorem dX12_image_8 : decode cX12_image 8 = .ok (.ireturn, 1) := by decide +kernel
theorem dX12_image_9 : decode cX12_image 9 = .ok (.iconst 0, 1) := by decide +kernel
theorem dX12_image_10 : decode cX12_image 10 = .ok (.istore_n 1, 1) := by decide +kernel
theorem dX12_image_11 : decode cX12_image 11 = .ok (.iload_n 1, 1) := by decide +kernel
theorem dX12_image_12 : decode cX12_image 12 = .ok (.sipush 943, 3) := by decide +kernel
theorem dX12_image_15 : decode cX12_image 15 = .ok (.if_icmp .ge 21, 3) := by decide +kernel
theorem dX12_image_18 : decode cX12_image 18 = .ok (.aload_n 0, 1) := by decide +kernel
theorem dX12_image_19 : decode cX12_image 19 = .ok (.getfield 106, 3) := by decide +kernel
theorem dX12_image_22 : decode cX12_image 22 = .ok (.iload_n 1, 1) := by decide +kernel
theorem dX12_image_23 : decode cX12_image 23 = .ok (.aload_n 0, 1) := by decide +kernel
theorem dX12_image_24 : decode cX12_image 24 = .ok (.getfield 61, 3) := by decide +kernel
theorem dX12_image_27 : decode cX12_image 27 = .ok (.iload_n 1, 1) := by decide +kernel
theorem dX12_image_28 : decode cX12_image 28 = .ok (.iaload, 1) := by decide +kernel
theorem dX12_image_29 : decode cX12_image 29 = .ok (.iastore, 1) := by decide +kernel
theorem dX12_image_30 : decode cX12_image 30 = .ok (.iinc 1 1, 3) := by decide +kernel
theorem dX12_image_33 : decode cX12_image 33 = .ok (.goto (-22), 3) := by decide +kernel
theorem dX12_image_36 : decode cX12_image 36 = .ok (.aload_n 0, 1) := by decide +kernel
theorem dX12_image_37 : decode cX12_image 37 = .ok (.iconst 1, 1) := by decide +kernel
theorem dX12_image_38 : decode cX12_image 38 = .ok (.putfield 282, 3) := by decide +kernel
theorem dX12_image_41 : decode cX12_image 41 = .ok (.aload_n 0, 1) := by decide +kernel
theorem dX12_image_42 : decode cX12_image 42 = .ok (.getfield 61, 3) := by decide +kernel
theorem dX12_image_45 : decode cX12_image 45 = .ok (.sipush 761, 3) := by decide +kernel
theorem dX12_image_48 : decode cX12_image 48 = .ok (.iaload, 1) := by decide +kernel
theorem dX12_image_49 : decode cX12_image 49 = .ok (.ireturn, 1) := by decide +kernel
def kX12_image_0 (g : sk_G) (d ck sk : Nat) (Q : sk_P) : sk_K := o_aload 0 (o_getf 12 23 (o_ifne (o_i (0) (o_istore 1 (sk_B (g, d, ck, sk, xX12_image, Q) 11))) (o_i (-1) (o_iret (g, d, ck, sk, xX12_image, Q)))))
theorem tX12_image_0 {g : sk_G} {d ck sk : Nat} {Q : sk_P} : sk_S (g, d, ck, sk, xX12_image, Q) 0 (kX12_image_0 g d ck sk Q) := s_aload_n dX12_image_0 rfl (s_getf (ci := 12) (j := 23) (C := RX12) (T := TX12) (N := 49) dX12_image_1 rfl (by decide) (by decide) qf_X12_273 (s_ifne (tgt := 9) dX12_image_4 (by decide) (s_iconst dX12_image_9 (s_istore_n dX12_image_10 rfl (by decide : 1 < 2) (sk_id))) (s_iconst dX12_image_7 (s_iret dX12_image_8 rfl))))
set_option maxRecDepth 20000 in
def kX12_image_11 (g : sk_G) (d ck sk : Nat) (Q : sk_P) : sk_K := o_iload 1 (o_i (943) (o_icge (o_aload 0 (o_i (1) (o_putz 12 48 (o_aload 0 (o_getf 12 28 (o_i (761) (o_iaload (o_iret (g, d, ck, sk, xX12_image, Q))))))))) (o_aload 0 (o_getf 12 47 (o_iload 1 (o_aload 0 (o_getf 12 28 (o_iload 1 (o_iaload (o_iastore (o_iinc 1 (1) (sk_B (g, d, ck, sk, xX12_image, Q) 11))))))))))))
set_option maxRecDepth 20000 in
theorem tX12_image_11 {g : sk_G} {d ck sk : Nat} {Q : sk_P} : sk_S (g, d, ck, sk, xX12_image, Q) 11 (kX12_image_11 g d ck sk Q) := s_iload_n dX12_image_11 rfl (s_sipush dX12_image_12 rfl (s_icge (tgt := 36) dX12_image_15 (by decide) (s_aload_n dX12_image_36 rfl (s_iconst dX12_image_37 (s_putz (ci := 12) (j := 48) (C := RX12) (T := TX12) (N := 49) dX12_image_38 rfl (by decide) (by decide) rfl (tyX12_ok 48 (by decide)) qf_X12_282 (s_aload_n dX12_image_41 rfl (s_getf (ci := 12) (j := 28) (C := RX12) (T := TX12) (N := 49) dX12_image_42 rfl (by decide) (by decide) qf_X12_61 (s_sipush dX12_image_45 rfl (s_iaload dX12_image_48 (s_iret dX12_image_49 rfl)))))))) (s_aload_n dX12_image_18 rfl (s_getf (ci := 12) (j := 47) (C := RX12) (T := TX12) (N := 49) dX12_image_19 rfl (by decide) (by decide) qf_X12_106 (s_iload_n dX12_image_22 rfl (s_aload_n dX12_image_23 rfl (s_getf (ci := 12) (j := 28) (C := RX12) (T := TX12) (N := 49) dX12_image_24 rfl (by decide) (by decide) qf_X12_61 (s_iload_n dX12_image_27 rfl (s_iaload dX12_image_28 (s_iastore dX12_image_29 (s_iinc dX12_image_30 (by decide : 1 < 2) (s_goto (tgt := 11) dX12_image_33 (by decide) (sk_id)))))))))))))
theorem dX12_back_0 : decode cX12_back 0 = .ok (.aload_n 0, 1) := by decide +kernel
theorem dX12_back_1 : decode cX12_back 1 = .ok (.getfield 282, 3) := by decide +kernel
theorem dX12_back_4 : decode cX12_back 4 = .ok (.ifCond .ne 5, 3) := by decide +kernel
theorem dX12_back_7 : decode cX12_back 7 = .ok (.iconst (-1), 1) := by decide +kernel
theorem dX12_back_8 : decode cX12_back 8 = .ok (.ireturn, 1) := by decide +kernel
theorem dX12_back_9 : decode cX12_back 9 = .ok (.iconst 0, 1) := by decide +kernel
theorem dX12_back_10 : decode cX12_back 10 = .ok (.istore_n 1, 1) := by decide +kernel
theorem dX12_back_11 : decode cX12_back 11 = .ok (.iload_n 1, 1) := by decide +kernel
theorem dX12_back_12 : decode cX12_back 12 = .ok (.sipush 943, 3) := by decide +kernel
theorem dX12_back_15 : decode cX12_back 15 = .ok (.if_icmp .ge 21, 3) := by decide +kernel
theorem dX12_back_18 : decode cX12_back 18 = .ok (.aload_n 0, 1) := by decide +kernel
theorem dX12_back_19 : decode cX12_back 19 = .ok (.getfield 61, 3) := by decide +kernel
theorem dX12_back_22 : decode cX12_back 22 = .ok (.iload_n 1, 1) := by decide +kernel
theorem dX12_back_23 : decode cX12_back 23 = .ok (.aload_n 0, 1) := by decide +kernel
theorem dX12_back_24 : decode cX12_back 24 = .ok (.getfield 106, 3) := by decide +kernel
theorem dX12_back_27 : decode cX12_back 27 = .ok (.iload_n 1, 1) := by decide +kernel
theorem dX12_back_28 : decode cX12_back 28 = .ok (.iaload, 1) := by decide +kernel
theorem dX12_back_29 : decode cX12_back 29 = .ok (.iastore, 1) := by decide +kernel
theorem dX12_back_30 : decode cX12_back 30 = .ok (.iinc 1 1, 3) := by decide +kernel
theorem dX12_back_33 : decode cX12_back 33 = .ok (.goto (-22), 3) := by decide +kernel
theorem dX12_back_36 : decode cX12_back 36 = .ok (.aload_n 0, 1) := by decide +kernel
theorem dX12_back_37 : decode cX12_back 37 = .ok (.iconst 0, 1) := by decide +kernel
theorem dX12_back_38 : decode cX12_back 38 = .ok (.putfield 279, 3) := by decide +kernel
theorem dX12_back_41 : decode cX12_back 41 = .ok (.aload_n 0, 1) := by decide +kernel
theorem dX12_back_42 : decode cX12_back 42 = .ok (.getfield 61, 3) := by decide +kernel
theorem dX12_back_45 : decode cX12_back 45 = .ok (.sipush 761, 3) := by decide +kernel
theorem dX12_back_48 : decode cX12_back 48 = .ok (.iaload, 1) := by decide +kernel
theorem dX12_back_49 : decode cX12_back 49 = .ok (.ireturn, 1) := by decide +kernel
def kX12_back_0 (g : sk_G) (d ck sk : Nat) (Q : sk_P) : sk_K := o_aload 0 (o_getf 12 48 (o_ifne (o_i (0) (o_istore 1 (sk_B (g, d, ck, sk, xX12_back, Q) 11))) (o_i (-1) (o_iret (g, d, ck, sk, xX12_back, Q)))))
theorem tX12_back_0 {g : sk_G} {d ck sk : Nat} {Q : sk_P} : sk_S (g, d, ck, sk, xX12_back, Q) 0 (kX12_back_0 g d ck sk Q) := s_aload_n dX12_back_0 rfl (s_getf (ci := 12) (j := 48) (C := RX12) (T := TX12) (N := 49) dX12_back_1 rfl (by decide) (by decide) qf_X12_282 (s_ifne (tgt := 9) dX12_back_4 (by decide) (s_iconst dX12_back_9 (s_istore_n dX12_back_10 rfl (by decide : 1 < 2) (sk_id))) (s_iconst dX12_back_7 (s_iret dX12_back_8 rfl))))
set_option maxRecDepth 20000 in
def kX12_back_11 (g : sk_G) (d ck sk : Nat) (Q : sk_P) : sk_K := o_iload 1 (o_i (943) (o_icge (o_aload 0 (o_i (0) (o_puti 12 33 (o_aload 0 (o_getf 12 28 (o_i (761) (o_iaload (o_iret (g, d, ck, sk, xX12_back, Q))))))))) (o_aload 0 (o_getf 12 28 (o_iload 1 (o_aload 0 (o_getf 12 47 (o_iload 1 (o_iaload (o_iastore (o_iinc 1 (1) (sk_B (g, d, ck, sk, xX12_back, Q) 11))))))))))))
set_option maxRecDepth 20000 in
theorem tX12_back_11 {g : sk_G} {d ck sk : Nat} {Q : sk_P} : sk_S (g, d, ck, sk, xX12_back, Q) 11 (kX12_back_11 g d ck sk Q) := s_iload_n dX12_back_11 rfl (s_sipush dX12_back_12 rfl (s_icge (tgt := 36) dX12_back_15 (by decide) (s_aload_n dX12_back_36 rfl (s_iconst dX12_back_37 (s_puti (ci := 12) (j := 33) (C := RX12) (T := TX12) (N := 49) dX12_back_38 rfl (by decide) (by decide) rfl (tyX12_ok 33 (by decide)) qf_X12_279 (s_aload_n dX12_back_41 rfl (s_getf (ci := 12) (j := 28) (C := RX12) (T := TX12) (N := 49) dX12_back_42 rfl (by decide) (by decide) qf_X12_61 (s_sipush dX12_back_45 rfl (s_iaload dX12_back_48 (s_iret dX12_back_49 rfl)))))))) (s_aload_n dX12_back_18 rfl (s_getf (ci := 12) (j := 28) (C := RX12) (T := TX12) (N := 49) dX12_back_19 rfl (by decide) (by decide) qf_X12_61 (s_iload_n dX12_back_22 rfl (s_aload_n dX12_back_23 rfl (s_getf (ci := 12) (j := 47) (C := RX12) (T := TX12) (N := 49) dX12_back_24 rfl (by decide) (by decide) qf_X12_106 (s_iload_n dX12_back_27 rfl (s_iaload dX12_back_28 (s_iastore dX12_back_29 (s_iinc dX12_back_30 (by decide : 1 < 2) (s_goto (tgt := 11) dX12_back_33 (by decide) (sk_id)))))))))))))
theorem dX12_count_0 : decode cX12_count 0 = .ok (.iload_n 1, 1) := by decide +kernel
theorem dX12_count_1 : decode cX12_count 1 = .ok (.tableswitch 122 0 10 #[59, 64, 69, 74, 79, 84, 89, 98, 103, 108, 117], 59) := by decide +kernel
theorem dX12_count_60 : decode cX12_count 60 = .ok (.aload_n 0, 1) := by decide +kernel
theorem dX12_count_61 : decode cX12_count 61 = .ok (.getfield 273, 3) := by decide +kernel
theorem dX12_count_64 : decode cX12_count 64 = .ok (.ireturn, 1) := by decide +kernel
theorem dX12_count_65 : decode cX12_count 65 = .ok (.aload_n 0, 1) := by decide +kernel
theorem dX12_count_66 : decode cX12_count 66 = .ok (.getfield 270, 3) := by decide +kernel
theorem dX12_count_69 : decode cX12_count 69 = .ok (.ireturn, 1) := by decide +kernel
theorem dX12_count_70 : decode cX12_count 70 = .ok (.aload_n 0, 1) := by decide +kernel
theorem dX12_count_71 : decode cX12_count 71 = .ok (.getfield 289, 3) := by decide +kernel
theorem dX12_count_74 : decode cX12_count 74 = .ok (.ireturn, 1) := by decide +kernel
theorem dX12_count_75 : decode cX12_count 75 = .ok (.aload_n 0, 1) := by decide +kernel
theorem dX12_count_76 : decode cX12_count 76 = .ok (.getfield 292, 3) := by decide +kernel
theorem dX12_count_79 : decode cX12_count 79 = .ok (.ireturn, 1) := by decide +kernel
theorem dX12_count_80 : decode cX12_count 80 = .ok (.aload_n 0, 1) := by decide +kernel
theorem dX12_count_81 : decode cX12_count 81 = .ok (.getfield 116, 3) := by decide +kernel
theorem dX12_count_84 : decode cX12_count 84 = .ok (.ireturn, 1) := by decide +kernel
theorem dX12_count_85 : decode cX12_count 85 = .ok (.aload_n 0, 1) := by decide +kernel
theorem dX12_count_86 : decode cX12_count 86 = .ok (.getfield 67, 3) := by decide +kernel
theorem dX12_count_89 : decode cX12_count 89 = .ok (.ireturn, 1) := by decide +kernel
theorem dX12_count_90 : decode cX12_count 90 = .ok (.aload_n 0, 1) := by decide +kernel
theorem dX12_count_91 : decode cX12_count 91 = .ok (.getfield 61, 3) := by decide +kernel
theorem dX12_count_94 : decode cX12_count 94 = .ok (.sipush 761, 3) := by decide +kernel
theorem dX12_count_97 : decode cX12_count 97 = .ok (.iaload, 1) := by decide +kernel
theorem dX12_count_98 : decode cX12_count 98 = .ok (.ireturn, 1) := by decide +kernel
theorem dX12_count_99 : decode cX12_count 99 = .ok (.aload_n 0, 1) := by decide +kernel
theorem dX12_count_100 : decode cX12_count 100 = .ok (.getfield 71, 3) := by decide +kernel
theorem dX12_count_103 : decode cX12_count 103 = .ok (.ireturn, 1) := by decide +kernel
theorem dX12_count_104 : decode cX12_count 104 = .ok (.aload_n 0, 1) := by decide +kernel
theorem dX12_count_105 : decode cX12_count 105 = .ok (.getfield 276, 3) := by decide +kernel
theorem dX12_count_108 : decode cX12_count 108 = .ok (.ireturn, 1) := by decide +kernel
theorem dX12_count_109 : decode cX12_count 109 = .ok (.aload_n 0, 1) := by decide +kernel
theorem dX12_count_110 : decode cX12_count 110 = .ok (.getfield 61, 3) := by decide +kernel
theorem dX12_count_113 : decode cX12_count 113 = .ok (.sipush 762, 3) := by decide +kernel
theorem dX12_count_116 : decode cX12_count 116 = .ok (.iaload, 1) := by decide +kernel
theorem dX12_count_117 : decode cX12_count 117 = .ok (.ireturn, 1) := by decide +kernel
theorem dX12_count_118 : decode cX12_count 118 = .ok (.aload_n 0, 1) := by decide +kernel
theorem dX12_count_119 : decode cX12_count 119 = .ok (.getfield 279, 3) := by decide +kernel
theorem dX12_count_122 : decode cX12_count 122 = .ok (.ireturn, 1) := by decide +kernel
theorem dX12_count_123 : decode cX12_count 123 = .ok (.ldc_w 473, 3) := by decide +kernel
theorem dX12_count_126 : decode cX12_count 126 = .ok (.ireturn, 1) := by decide +kernel
set_option maxRecDepth 20000 in
def kX12_count_0 (g : sk_G) (d ck sk : Nat) (Q : sk_P) : sk_K := o_iload 1 (o_tsw (0) [o_aload 0 (o_getf 12 23 (o_iret (g, d, ck, sk, xX12_count, Q))), o_aload 0 (o_getf 12 22 (o_iret (g, d, ck, sk, xX12_count, Q))), o_aload 0 (o_getf 12 13 (o_iret (g, d, ck, sk, xX12_count, Q))), o_aload 0 (o_getf 12 27 (o_iret (g, d, ck, sk, xX12_count, Q))), o_aload 0 (o_getf 12 2 (o_iret (g, d, ck, sk, xX12_count, Q))), o_aload 0 (o_getf 12 30 (o_iret (g, d, ck, sk, xX12_count, Q))), o_aload 0 (o_getf 12 28 (o_i (761) (o_iaload (o_iret (g, d, ck, sk, xX12_count, Q))))), o_aload 0 (o_getf 12 31 (o_iret (g, d, ck, sk, xX12_count, Q))), o_aload 0 (o_getf 12 45 (o_iret (g, d, ck, sk, xX12_count, Q))), o_aload 0 (o_getf 12 28 (o_i (762) (o_iaload (o_iret (g, d, ck, sk, xX12_count, Q))))), o_aload 0 (o_getf 12 33 (o_iret (g, d, ck, sk, xX12_count, Q)))] (o_i (-1000000) (o_iret (g, d, ck, sk, xX12_count, Q))))
set_option maxRecDepth 20000 in
theorem tX12_count_0 {g : sk_G} {d ck sk : Nat} {Q : sk_P} : sk_S (g, d, ck, sk, xX12_count, Q) 0 (kX12_count_0 g d ck sk Q) := s_iload_n dX12_count_0 rfl (s_tsw (td := 123) (tg := [60, 65, 70, 75, 80, 85, 90, 99, 104, 109, 118]) (n := 11) dX12_count_1 rfl (by decide) (by decide) (by decide) (s_ldcw dX12_count_123 qk_X12_473 rfl (s_iret dX12_count_126 rfl)) (fun i off h => by
    match i, h with
    | 0, h => cases h; exact ⟨60, rfl, by decide⟩
    | 1, h => cases h; exact ⟨65, rfl, by decide⟩
    | 2, h => cases h; exact ⟨70, rfl, by decide⟩
    | 3, h => cases h; exact ⟨75, rfl, by decide⟩
    | 4, h => cases h; exact ⟨80, rfl, by decide⟩
    | 5, h => cases h; exact ⟨85, rfl, by decide⟩
    | 6, h => cases h; exact ⟨90, rfl, by decide⟩
    | 7, h => cases h; exact ⟨99, rfl, by decide⟩
    | 8, h => cases h; exact ⟨104, rfl, by decide⟩
    | 9, h => cases h; exact ⟨109, rfl, by decide⟩
    | 10, h => cases h; exact ⟨118, rfl, by decide⟩
    | i + 11, h => simp at h) (fun i a t hi ht => by
    match i, hi, ht with
    | 0, hi, ht => cases hi; cases ht; exact s_aload_n dX12_count_60 rfl (s_getf (ci := 12) (j := 23) (C := RX12) (T := TX12) (N := 49) dX12_count_61 rfl (by decide) (by decide) qf_X12_273 (s_iret dX12_count_64 rfl))
    | 1, hi, ht => cases hi; cases ht; exact s_aload_n dX12_count_65 rfl (s_getf (ci := 12) (j := 22) (C := RX12) (T := TX12) (N := 49) dX12_count_66 rfl (by decide) (by decide) qf_X12_270 (s_iret dX12_count_69 rfl))
    | 2, hi, ht => cases hi; cases ht; exact s_aload_n dX12_count_70 rfl (s_getf (ci := 12) (j := 13) (C := RX12) (T := TX12) (N := 49) dX12_count_71 rfl (by decide) (by decide) qf_X12_289 (s_iret dX12_count_74 rfl))
    | 3, hi, ht => cases hi; cases ht; exact s_aload_n dX12_count_75 rfl (s_getf (ci := 12) (j := 27) (C := RX12) (T := TX12) (N := 49) dX12_count_76 rfl (by decide) (by decide) qf_X12_292 (s_iret dX12_count_79 rfl))
    | 4, hi, ht => cases hi; cases ht; exact s_aload_n dX12_count_80 rfl (s_getf (ci := 12) (j := 2) (C := RX12) (T := TX12) (N := 49) dX12_count_81 rfl (by decide) (by decide) qf_X12_116 (s_iret dX12_count_84 rfl))
    | 5, hi, ht => cases hi; cases ht; exact s_aload_n dX12_count_85 rfl (s_getf (ci := 12) (j := 30) (C := RX12) (T := TX12) (N := 49) dX12_count_86 rfl (by decide) (by decide) qf_X12_67 (s_iret dX12_count_89 rfl))
    | 6, hi, ht => cases hi; cases ht; exact s_aload_n dX12_count_90 rfl (s_getf (ci := 12) (j := 28) (C := RX12) (T := TX12) (N := 49) dX12_count_91 rfl (by decide) (by decide) qf_X12_61 (s_sipush dX12_count_94 rfl (s_iaload dX12_count_97 (s_iret dX12_count_98 rfl))))
    | 7, hi, ht => cases hi; cases ht; exact s_aload_n dX12_count_99 rfl (s_getf (ci := 12) (j := 31) (C := RX12) (T := TX12) (N := 49) dX12_count_100 rfl (by decide) (by decide) qf_X12_71 (s_iret dX12_count_103 rfl))
    | 8, hi, ht => cases hi; cases ht; exact s_aload_n dX12_count_104 rfl (s_getf (ci := 12) (j := 45) (C := RX12) (T := TX12) (N := 49) dX12_count_105 rfl (by decide) (by decide) qf_X12_276 (s_iret dX12_count_108 rfl))
    | 9, hi, ht => cases hi; cases ht; exact s_aload_n dX12_count_109 rfl (s_getf (ci := 12) (j := 28) (C := RX12) (T := TX12) (N := 49) dX12_count_110 rfl (by decide) (by decide) qf_X12_61 (s_sipush dX12_count_113 rfl (s_iaload dX12_count_116 (s_iret dX12_count_117 rfl))))
    | 10, hi, ht => cases hi; cases ht; exact s_aload_n dX12_count_118 rfl (s_getf (ci := 12) (j := 33) (C := RX12) (T := TX12) (N := 49) dX12_count_119 rfl (by decide) (by decide) qf_X12_279 (s_iret dX12_count_122 rfl))
    | i + 11, hi, ht => simp at hi))
