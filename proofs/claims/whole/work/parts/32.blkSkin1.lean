theorem dX11_layersInRow_0 : decode cX11_layersInRow 0 = .ok (.iconst 0, 1) := by decide +kernel
theorem dX11_layersInRow_1 : decode cX11_layersInRow 1 = .ok (.istore_n 2, 1) := by decide +kernel
theorem dX11_layersInRow_2 : decode cX11_layersInRow 2 = .ok (.aload_n 0, 1) := by decide +kernel
theorem dX11_layersInRow_3 : decode cX11_layersInRow 3 = .ok (.getfield 19, 3) := by decide +kernel
theorem dX11_layersInRow_6 : decode cX11_layersInRow 6 = .ok (.iload_n 1, 1) := by decide +kernel
theorem dX11_layersInRow_7 : decode cX11_layersInRow 7 = .ok (.invokevirtual 429, 3) := by decide +kernel
theorem dX11_layersInRow_10 : decode cX11_layersInRow 10 = .ok (.istore_n 3, 1) := by decide +kernel
theorem dX11_layersInRow_11 : decode cX11_layersInRow 11 = .ok (.iload_n 3, 1) := by decide +kernel
theorem dX11_layersInRow_12 : decode cX11_layersInRow 12 = .ok (.aload_n 0, 1) := by decide +kernel
theorem dX11_layersInRow_13 : decode cX11_layersInRow 13 = .ok (.getfield 19, 3) := by decide +kernel
theorem dX11_layersInRow_16 : decode cX11_layersInRow 16 = .ok (.iload_n 1, 1) := by decide +kernel
theorem dX11_layersInRow_17 : decode cX11_layersInRow 17 = .ok (.iconst 1, 1) := by decide +kernel
theorem dX11_layersInRow_18 : decode cX11_layersInRow 18 = .ok (.iadd, 1) := by decide +kernel
theorem dX11_layersInRow_19 : decode cX11_layersInRow 19 = .ok (.invokevirtual 429, 3) := by decide +kernel
theorem dX11_layersInRow_22 : decode cX11_layersInRow 22 = .ok (.if_icmp .ge 21, 3) := by decide +kernel
theorem dX11_layersInRow_25 : decode cX11_layersInRow 25 = .ok (.iload_n 2, 1) := by decide +kernel
theorem dX11_layersInRow_26 : decode cX11_layersInRow 26 = .ok (.aload_n 0, 1) := by decide +kernel
theorem dX11_layersInRow_27 : decode cX11_layersInRow 27 = .ok (.getfield 36, 3) := by decide +kernel
theorem dX11_layersInRow_30 : decode cX11_layersInRow 30 = .ok (.getfield 181, 3) := by decide +kernel
theorem dX11_layersInRow_33 : decode cX11_layersInRow 33 = .ok (.iload_n 3, 1) := by decide +kernel
theorem dX11_layersInRow_34 : decode cX11_layersInRow 34 = .ok (.iaload, 1) := by decide +kernel
theorem dX11_layersInRow_35 : decode cX11_layersInRow 35 = .ok (.iadd, 1) := by decide +kernel
theorem dX11_layersInRow_36 : decode cX11_layersInRow 36 = .ok (.istore_n 2, 1) := by decide +kernel
theorem dX11_layersInRow_37 : decode cX11_layersInRow 37 = .ok (.iinc 3 1, 3) := by decide +kernel
theorem dX11_layersInRow_40 : decode cX11_layersInRow 40 = .ok (.goto (-29), 3) := by decide +kernel
theorem dX11_layersInRow_43 : decode cX11_layersInRow 43 = .ok (.iload_n 2, 1) := by decide +kernel
theorem dX11_layersInRow_44 : decode cX11_layersInRow 44 = .ok (.ireturn, 1) := by decide +kernel
set_option maxRecDepth 20000 in
def kX11_layersInRow_0 (g : sk_G) (d ck sk : Nat) (Q : sk_P) : sk_K := o_i (0) (o_istore 2 (o_aload 0 (o_getf 11 1 (o_iload 1 (o_invT (g, d, ck, sk, xX11_layersInRow, Q) 2 1 7 (fun Q => kX7_firstOf_0 g (d - 1) 0 0 Q) (o_istore 3 (sk_B (g, d, ck, sk, xX11_layersInRow, Q) 11)))))))
set_option maxRecDepth 20000 in
theorem tX11_layersInRow_0 {g : sk_G} {d ck sk : Nat} {Q : sk_P} : sk_S (g, d, ck, sk, xX11_layersInRow, Q) 0 (kX11_layersInRow_0 g d ck sk Q) := s_iconst dX11_layersInRow_0 (s_istore_n dX11_layersInRow_1 rfl (by decide : 2 < 4) (s_aload_n dX11_layersInRow_2 rfl (s_getf (ci := 11) (j := 1) (C := RX11) (T := TX11) (N := 17) dX11_layersInRow_3 rfl (by decide) (by decide) qf_X11_19 (s_iload_n dX11_layersInRow_6 rfl (s_invT (X := xX7_firstOf) (ci := 7) (T := TX7) (N := 4) (K := (fun Q => kX7_firstOf_0 g (d - 1) 0 0 Q)) (fun _ => tX7_firstOf_0) rfl dX11_layersInRow_7 m_X7_firstOf rfl (by decide) qm_X11_429 qi_X7_firstOf qe_X7_firstOf (s_istore_n dX11_layersInRow_10 rfl (by decide : 3 < 4) (sk_id)))))))
set_option maxRecDepth 20000 in
def kX11_layersInRow_11 (g : sk_G) (d ck sk : Nat) (Q : sk_P) : sk_K := o_iload 3 (o_aload 0 (o_getf 11 1 (o_iload 1 (o_i (1) (o_iadd (o_invT (g, d, ck, sk, xX11_layersInRow, Q) 2 1 7 (fun Q => kX7_firstOf_0 g (d - 1) 0 0 Q) (o_icge (o_iload 2 (o_iret (g, d, ck, sk, xX11_layersInRow, Q))) (o_iload 2 (o_aload 0 (o_getf 11 4 (o_getf 5 1 (o_iload 3 (o_iaload (o_iadd (o_istore 2 (o_iinc 3 (1) (sk_B (g, d, ck, sk, xX11_layersInRow, Q) 11)))))))))))))))))
set_option maxRecDepth 20000 in
theorem tX11_layersInRow_11 {g : sk_G} {d ck sk : Nat} {Q : sk_P} : sk_S (g, d, ck, sk, xX11_layersInRow, Q) 11 (kX11_layersInRow_11 g d ck sk Q) := s_iload_n dX11_layersInRow_11 rfl (s_aload_n dX11_layersInRow_12 rfl (s_getf (ci := 11) (j := 1) (C := RX11) (T := TX11) (N := 17) dX11_layersInRow_13 rfl (by decide) (by decide) qf_X11_19 (s_iload_n dX11_layersInRow_16 rfl (s_iconst dX11_layersInRow_17 (s_iadd dX11_layersInRow_18 (s_invT (X := xX7_firstOf) (ci := 7) (T := TX7) (N := 4) (K := (fun Q => kX7_firstOf_0 g (d - 1) 0 0 Q)) (fun _ => tX7_firstOf_0) rfl dX11_layersInRow_19 m_X7_firstOf rfl (by decide) qm_X11_429 qi_X7_firstOf qe_X7_firstOf (s_icge (tgt := 43) dX11_layersInRow_22 (by decide) (s_iload_n dX11_layersInRow_43 rfl (s_iret dX11_layersInRow_44 rfl)) (s_iload_n dX11_layersInRow_25 rfl (s_aload_n dX11_layersInRow_26 rfl (s_getf (ci := 11) (j := 4) (C := RX11) (T := TX11) (N := 17) dX11_layersInRow_27 rfl (by decide) (by decide) qf_X11_36 (s_getfN (ci := 5) (j := 1) (C := RX5) (T := TX5) (N := 6) dX11_layersInRow_30 rfl (by decide) (by decide) qn_X11_181 (s_iload_n dX11_layersInRow_33 rfl (s_iaload dX11_layersInRow_34 (s_iadd dX11_layersInRow_35 (s_istore_n dX11_layersInRow_36 rfl (by decide : 2 < 4) (s_iinc dX11_layersInRow_37 (by decide : 3 < 4) (s_goto (tgt := 11) dX11_layersInRow_40 (by decide) (sk_id))))))))))))))))))
theorem dX11_scrapeRow_0 : decode cX11_scrapeRow 0 = .ok (.iconst 0, 1) := by decide +kernel
theorem dX11_scrapeRow_1 : decode cX11_scrapeRow 1 = .ok (.istore 4, 2) := by decide +kernel
theorem dX11_scrapeRow_3 : decode cX11_scrapeRow 3 = .ok (.aload_n 0, 1) := by decide +kernel
theorem dX11_scrapeRow_4 : decode cX11_scrapeRow 4 = .ok (.getfield 19, 3) := by decide +kernel
theorem dX11_scrapeRow_7 : decode cX11_scrapeRow 7 = .ok (.iload_n 2, 1) := by decide +kernel
theorem dX11_scrapeRow_8 : decode cX11_scrapeRow 8 = .ok (.invokevirtual 429, 3) := by decide +kernel
theorem dX11_scrapeRow_11 : decode cX11_scrapeRow 11 = .ok (.istore 5, 2) := by decide +kernel
theorem dX11_scrapeRow_13 : decode cX11_scrapeRow 13 = .ok (.iload 5, 2) := by decide +kernel
theorem dX11_scrapeRow_15 : decode cX11_scrapeRow 15 = .ok (.aload_n 0, 1) := by decide +kernel
theorem dX11_scrapeRow_16 : decode cX11_scrapeRow 16 = .ok (.getfield 19, 3) := by decide +kernel
theorem dX11_scrapeRow_19 : decode cX11_scrapeRow 19 = .ok (.iload_n 2, 1) := by decide +kernel
theorem dX11_scrapeRow_20 : decode cX11_scrapeRow 20 = .ok (.iconst 1, 1) := by decide +kernel
theorem dX11_scrapeRow_21 : decode cX11_scrapeRow 21 = .ok (.iadd, 1) := by decide +kernel
theorem dX11_scrapeRow_22 : decode cX11_scrapeRow 22 = .ok (.invokevirtual 429, 3) := by decide +kernel
theorem dX11_scrapeRow_25 : decode cX11_scrapeRow 25 = .ok (.if_icmp .ge 21, 3) := by decide +kernel
theorem dX11_scrapeRow_28 : decode cX11_scrapeRow 28 = .ok (.iload 4, 2) := by decide +kernel
theorem dX11_scrapeRow_30 : decode cX11_scrapeRow 30 = .ok (.aload_n 1, 1) := by decide +kernel
theorem dX11_scrapeRow_31 : decode cX11_scrapeRow 31 = .ok (.iload 5, 2) := by decide +kernel
theorem dX11_scrapeRow_33 : decode cX11_scrapeRow 33 = .ok (.iload_n 3, 1) := by decide +kernel
theorem dX11_scrapeRow_34 : decode cX11_scrapeRow 34 = .ok (.invokevirtual 432, 3) := by decide +kernel
theorem dX11_scrapeRow_37 : decode cX11_scrapeRow 37 = .ok (.iadd, 1) := by decide +kernel
theorem dX11_scrapeRow_38 : decode cX11_scrapeRow 38 = .ok (.istore 4, 2) := by decide +kernel
theorem dX11_scrapeRow_40 : decode cX11_scrapeRow 40 = .ok (.iinc 5 1, 3) := by decide +kernel
theorem dX11_scrapeRow_43 : decode cX11_scrapeRow 43 = .ok (.goto (-30), 3) := by decide +kernel
theorem dX11_scrapeRow_46 : decode cX11_scrapeRow 46 = .ok (.iload 4, 2) := by decide +kernel
theorem dX11_scrapeRow_48 : decode cX11_scrapeRow 48 = .ok (.ireturn, 1) := by decide +kernel
set_option maxRecDepth 20000 in
def kX11_scrapeRow_0 (g : sk_G) (d ck sk : Nat) (Q : sk_P) : sk_K := o_i (0) (o_istore 4 (o_aload 0 (o_getf 11 1 (o_iload 2 (o_invT (g, d, ck, sk, xX11_scrapeRow, Q) 2 1 7 (fun Q => kX7_firstOf_0 g (d - 1) 0 0 Q) (o_istore 5 (sk_B (g, d, ck, sk, xX11_scrapeRow, Q) 13)))))))
set_option maxRecDepth 20000 in
theorem tX11_scrapeRow_0 {g : sk_G} {d ck sk : Nat} {Q : sk_P} : sk_S (g, d, ck, sk, xX11_scrapeRow, Q) 0 (kX11_scrapeRow_0 g d ck sk Q) := s_iconst dX11_scrapeRow_0 (s_istore dX11_scrapeRow_1 (by decide : 4 < 6) (s_aload_n dX11_scrapeRow_3 rfl (s_getf (ci := 11) (j := 1) (C := RX11) (T := TX11) (N := 17) dX11_scrapeRow_4 rfl (by decide) (by decide) qf_X11_19 (s_iload_n dX11_scrapeRow_7 rfl (s_invT (X := xX7_firstOf) (ci := 7) (T := TX7) (N := 4) (K := (fun Q => kX7_firstOf_0 g (d - 1) 0 0 Q)) (fun _ => tX7_firstOf_0) rfl dX11_scrapeRow_8 m_X7_firstOf rfl (by decide) qm_X11_429 qi_X7_firstOf qe_X7_firstOf (s_istore dX11_scrapeRow_11 (by decide : 5 < 6) (sk_id)))))))
set_option maxRecDepth 20000 in
def kX11_scrapeRow_13 (g : sk_G) (d ck sk : Nat) (Q : sk_P) : sk_K := o_iload 5 (o_aload 0 (o_getf 11 1 (o_iload 2 (o_i (1) (o_iadd (o_invT (g, d, ck, sk, xX11_scrapeRow, Q) 2 1 7 (fun Q => kX7_firstOf_0 g (d - 1) 0 0 Q) (o_icge (o_iload 4 (o_iret (g, d, ck, sk, xX11_scrapeRow, Q))) (o_iload 4 (o_aload 1 (o_iload 5 (o_iload 3 (o_invB (g, d, ck, sk, xX11_scrapeRow, Q) xX5_scrapeCell 2 5 0 0 (o_iadd (o_istore 4 (o_iinc 5 (1) (sk_B (g, d, ck, sk, xX11_scrapeRow, Q) 13))))))))))))))))
set_option maxRecDepth 20000 in
theorem tX11_scrapeRow_13 {g : sk_G} {d ck sk : Nat} {Q : sk_P} : sk_S (g, d, ck, sk, xX11_scrapeRow, Q) 13 (kX11_scrapeRow_13 g d ck sk Q) := s_iload dX11_scrapeRow_13 (s_aload_n dX11_scrapeRow_15 rfl (s_getf (ci := 11) (j := 1) (C := RX11) (T := TX11) (N := 17) dX11_scrapeRow_16 rfl (by decide) (by decide) qf_X11_19 (s_iload_n dX11_scrapeRow_19 rfl (s_iconst dX11_scrapeRow_20 (s_iadd dX11_scrapeRow_21 (s_invT (X := xX7_firstOf) (ci := 7) (T := TX7) (N := 4) (K := (fun Q => kX7_firstOf_0 g (d - 1) 0 0 Q)) (fun _ => tX7_firstOf_0) rfl dX11_scrapeRow_22 m_X7_firstOf rfl (by decide) qm_X11_429 qi_X7_firstOf qe_X7_firstOf (s_icge (tgt := 46) dX11_scrapeRow_25 (by decide) (s_iload dX11_scrapeRow_46 (s_iret dX11_scrapeRow_48 rfl)) (s_iload dX11_scrapeRow_28 (s_aload_n dX11_scrapeRow_30 rfl (s_iload dX11_scrapeRow_31 (s_iload_n dX11_scrapeRow_33 rfl (s_invB (w' := (g, d, ck, sk, xX11_scrapeRow, Q)) (ci := 5) (ck := 0) (sk := 0) (T := TX5) (N := 6) dX11_scrapeRow_34 m_X5_scrapeCell rfl (by decide) qm_X11_432 qi_X5_scrapeCell qe_X5_scrapeCell rfl (s_iadd dX11_scrapeRow_37 (s_istore dX11_scrapeRow_38 (by decide : 4 < 6) (s_iinc dX11_scrapeRow_40 (by decide : 5 < 6) (s_goto (tgt := 13) dX11_scrapeRow_43 (by decide) (sk_id)))))))))))))))))
theorem dX11_ages_0 : decode cX11_ages 0 = .ok (.aload_n 0, 1) := by decide +kernel
theorem dX11_ages_1 : decode cX11_ages 1 = .ok (.getfield 19, 3) := by decide +kernel
theorem dX11_ages_4 : decode cX11_ages 4 = .ok (.invokevirtual 141, 3) := by decide +kernel
theorem dX11_ages_7 : decode cX11_ages 7 = .ok (.ifCond .ne 9, 3) := by decide +kernel
theorem dX11_ages_10 : decode cX11_ages 10 = .ok (.aload_n 0, 1) := by decide +kernel
theorem dX11_ages_11 : decode cX11_ages 11 = .ok (.iconst 0, 1) := by decide +kernel
theorem dX11_ages_12 : decode cX11_ages 12 = .ok (.invokevirtual 199, 3) := by decide +kernel
theorem dX11_ages_15 : decode cX11_ages 15 = .ok (.ireturn, 1) := by decide +kernel
theorem dX11_ages_16 : decode cX11_ages 16 = .ok (.iload_n 1, 1) := by decide +kernel
theorem dX11_ages_17 : decode cX11_ages 17 = .ok (.iconst 1, 1) := by decide +kernel
theorem dX11_ages_18 : decode cX11_ages 18 = .ok (.if_icmp .lt 9, 3) := by decide +kernel
theorem dX11_ages_21 : decode cX11_ages 21 = .ok (.iload_n 1, 1) := by decide +kernel
theorem dX11_ages_22 : decode cX11_ages 22 = .ok (.bipush 30, 2) := by decide +kernel
theorem dX11_ages_24 : decode cX11_ages 24 = .ok (.if_icmp .le 9, 3) := by decide +kernel
theorem dX11_ages_27 : decode cX11_ages 27 = .ok (.aload_n 0, 1) := by decide +kernel
theorem dX11_ages_28 : decode cX11_ages 28 = .ok (.iconst 1, 1) := by decide +kernel
theorem dX11_ages_29 : decode cX11_ages 29 = .ok (.invokevirtual 199, 3) := by decide +kernel
theorem dX11_ages_32 : decode cX11_ages 32 = .ok (.ireturn, 1) := by decide +kernel
theorem dX11_ages_33 : decode cX11_ages 33 = .ok (.aload_n 0, 1) := by decide +kernel
theorem dX11_ages_34 : decode cX11_ages 34 = .ok (.getfield 36, 3) := by decide +kernel
theorem dX11_ages_37 : decode cX11_ages 37 = .ok (.getfield 233, 3) := by decide +kernel
theorem dX11_ages_40 : decode cX11_ages 40 = .ok (.iload_n 1, 1) := by decide +kernel
theorem dX11_ages_41 : decode cX11_ages 41 = .ok (.iadd, 1) := by decide +kernel
theorem dX11_ages_42 : decode cX11_ages 42 = .ok (.sipush 999, 3) := by decide +kernel
theorem dX11_ages_45 : decode cX11_ages 45 = .ok (.if_icmp .le 9, 3) := by decide +kernel
theorem dX11_ages_48 : decode cX11_ages 48 = .ok (.aload_n 0, 1) := by decide +kernel
theorem dX11_ages_49 : decode cX11_ages 49 = .ok (.iconst 4, 1) := by decide +kernel
theorem dX11_ages_50 : decode cX11_ages 50 = .ok (.invokevirtual 199, 3) := by decide +kernel
theorem dX11_ages_53 : decode cX11_ages 53 = .ok (.ireturn, 1) := by decide +kernel
theorem dX11_ages_54 : decode cX11_ages 54 = .ok (.iconst 0, 1) := by decide +kernel
theorem dX11_ages_55 : decode cX11_ages 55 = .ok (.istore_n 2, 1) := by decide +kernel
theorem dX11_ages_56 : decode cX11_ages 56 = .ok (.iload_n 2, 1) := by decide +kernel
theorem dX11_ages_57 : decode cX11_ages 57 = .ok (.iload_n 1, 1) := by decide +kernel
theorem dX11_ages_58 : decode cX11_ages 58 = .ok (.if_icmp .ge 24, 3) := by decide +kernel
theorem dX11_ages_61 : decode cX11_ages 61 = .ok (.aload_n 0, 1) := by decide +kernel
theorem dX11_ages_62 : decode cX11_ages 62 = .ok (.getfield 53, 3) := by decide +kernel
theorem dX11_ages_65 : decode cX11_ages 65 = .ok (.aload_n 0, 1) := by decide +kernel
theorem dX11_ages_66 : decode cX11_ages 66 = .ok (.getfield 36, 3) := by decide +kernel
theorem dX11_ages_69 : decode cX11_ages 69 = .ok (.invokevirtual 212, 3) := by decide +kernel
theorem dX11_ages_72 : decode cX11_ages 72 = .ok (.aload_n 0, 1) := by decide +kernel
theorem dX11_ages_73 : decode cX11_ages 73 = .ok (.invokevirtual 236, 3) := by decide +kernel
theorem dX11_ages_76 : decode cX11_ages 76 = .ok (.iinc 2 1, 3) := by decide +kernel
theorem dX11_ages_79 : decode cX11_ages 79 = .ok (.goto (-23), 3) := by decide +kernel
theorem dX11_ages_82 : decode cX11_ages 82 = .ok (.aload_n 0, 1) := by decide +kernel
theorem dX11_ages_83 : decode cX11_ages 83 = .ok (.getfield 36, 3) := by decide +kernel
theorem dX11_ages_86 : decode cX11_ages 86 = .ok (.getfield 233, 3) := by decide +kernel
theorem dX11_ages_89 : decode cX11_ages 89 = .ok (.ireturn, 1) := by decide +kernel
set_option maxRecDepth 20000 in
def kX11_ages_0 (g : sk_G) (d ck sk : Nat) (Q : sk_P) : sk_K := o_aload 0 (o_getf 11 1 (o_invT (g, d, ck, sk, xX11_ages, Q) 1 0 7 (fun Q => kX7_isSkin_0 g (d - 1) 0 0 Q) (o_ifne (o_iload 1 (o_i (1) (o_iclt (o_aload 0 (o_i (1) (o_invT (g, d, ck, sk, xX11_ages, Q) 2 1 11 (fun Q => kX11_refuse_0 g (d - 1) 0 0 Q) (o_iret (g, d, ck, sk, xX11_ages, Q))))) (o_iload 1 (o_i (30) (o_icle (o_aload 0 (o_getf 11 4 (o_getf 5 3 (o_iload 1 (o_iadd (o_i (999) (o_icle (o_i (0) (o_istore 2 (sk_B (g, d, ck, sk, xX11_ages, Q) 56))) (o_aload 0 (o_i (4) (o_invT (g, d, ck, sk, xX11_ages, Q) 2 1 11 (fun Q => kX11_refuse_0 g (d - 1) 0 0 Q) (o_iret (g, d, ck, sk, xX11_ages, Q)))))))))))) (o_aload 0 (o_i (1) (o_invT (g, d, ck, sk, xX11_ages, Q) 2 1 11 (fun Q => kX11_refuse_0 g (d - 1) 0 0 Q) (o_iret (g, d, ck, sk, xX11_ages, Q))))))))))) (o_aload 0 (o_i (0) (o_invT (g, d, ck, sk, xX11_ages, Q) 2 1 11 (fun Q => kX11_refuse_0 g (d - 1) 0 0 Q) (o_iret (g, d, ck, sk, xX11_ages, Q))))))))
set_option maxRecDepth 20000 in
theorem tX11_ages_0 {g : sk_G} {d ck sk : Nat} {Q : sk_P} : sk_S (g, d, ck, sk, xX11_ages, Q) 0 (kX11_ages_0 g d ck sk Q) := s_aload_n dX11_ages_0 rfl (s_getf (ci := 11) (j := 1) (C := RX11) (T := TX11) (N := 17) dX11_ages_1 rfl (by decide) (by decide) qf_X11_19 (s_invT (X := xX7_isSkin) (ci := 7) (T := TX7) (N := 4) (K := (fun Q => kX7_isSkin_0 g (d - 1) 0 0 Q)) (fun _ => tX7_isSkin_0) rfl dX11_ages_4 m_X7_isSkin rfl (by decide) qm_X11_141 qi_X7_isSkin qe_X7_isSkin (s_ifne (tgt := 16) dX11_ages_7 (by decide) (s_iload_n dX11_ages_16 rfl (s_iconst dX11_ages_17 (s_iclt (tgt := 27) dX11_ages_18 (by decide) (s_aload_n dX11_ages_27 rfl (s_iconst dX11_ages_28 (s_invT (X := xX11_refuse) (ci := 11) (T := TX11) (N := 17) (K := (fun Q => kX11_refuse_0 g (d - 1) 0 0 Q)) (fun _ => tX11_refuse_0) rfl dX11_ages_29 m_X11_refuse rfl (by decide) qm_X11_199 qi_X11_refuse qe_X11_refuse (s_iret dX11_ages_32 rfl)))) (s_iload_n dX11_ages_21 rfl (s_bipush dX11_ages_22 rfl (s_icle (tgt := 33) dX11_ages_24 (by decide) (s_aload_n dX11_ages_33 rfl (s_getf (ci := 11) (j := 4) (C := RX11) (T := TX11) (N := 17) dX11_ages_34 rfl (by decide) (by decide) qf_X11_36 (s_getfN (ci := 5) (j := 3) (C := RX5) (T := TX5) (N := 6) dX11_ages_37 rfl (by decide) (by decide) qn_X11_233 (s_iload_n dX11_ages_40 rfl (s_iadd dX11_ages_41 (s_sipush dX11_ages_42 rfl (s_icle (tgt := 54) dX11_ages_45 (by decide) (s_iconst dX11_ages_54 (s_istore_n dX11_ages_55 rfl (by decide : 2 < 3) (sk_id))) (s_aload_n dX11_ages_48 rfl (s_iconst dX11_ages_49 (s_invT (X := xX11_refuse) (ci := 11) (T := TX11) (N := 17) (K := (fun Q => kX11_refuse_0 g (d - 1) 0 0 Q)) (fun _ => tX11_refuse_0) rfl dX11_ages_50 m_X11_refuse rfl (by decide) qm_X11_199 qi_X11_refuse qe_X11_refuse (s_iret dX11_ages_53 rfl))))))))))) (s_aload_n dX11_ages_27 rfl (s_iconst dX11_ages_28 (s_invT (X := xX11_refuse) (ci := 11) (T := TX11) (N := 17) (K := (fun Q => kX11_refuse_0 g (d - 1) 0 0 Q)) (fun _ => tX11_refuse_0) rfl dX11_ages_29 m_X11_refuse rfl (by decide) qm_X11_199 qi_X11_refuse qe_X11_refuse (s_iret dX11_ages_32 rfl)))))))))) (s_aload_n dX11_ages_10 rfl (s_iconst dX11_ages_11 (s_invT (X := xX11_refuse) (ci := 11) (T := TX11) (N := 17) (K := (fun Q => kX11_refuse_0 g (d - 1) 0 0 Q)) (fun _ => tX11_refuse_0) rfl dX11_ages_12 m_X11_refuse rfl (by decide) qm_X11_199 qi_X11_refuse qe_X11_refuse (s_iret dX11_ages_15 rfl)))))))
set_option maxRecDepth 20000 in
def kX11_ages_56 (g : sk_G) (d ck sk : Nat) (Q : sk_P) : sk_K := o_iload 2 (o_iload 1 (o_icge (o_aload 0 (o_getf 11 4 (o_getf 5 3 (o_iret (g, d, ck, sk, xX11_ages, Q))))) (o_aload 0 (o_getf 11 7 (o_aload 0 (o_getf 11 4 (o_invB (g, d, ck, sk, xX11_ages, Q) xX0_keep 1 0 3 286 (o_aload 0 (o_invB (g, d, ck - 3, sk - 286, xX11_ages, Q) xX11_passYear 0 11 0 0 (o_iinc 2 (1) (sk_B (g, d, ck - 3, sk - 286, xX11_ages, Q) 56)))))))))))
set_option maxRecDepth 20000 in
theorem tX11_ages_56 {g : sk_G} {d ck sk : Nat} {Q : sk_P} : sk_S (g, d, ck, sk, xX11_ages, Q) 56 (kX11_ages_56 g d ck sk Q) := s_iload_n dX11_ages_56 rfl (s_iload_n dX11_ages_57 rfl (s_icge (tgt := 82) dX11_ages_58 (by decide) (s_aload_n dX11_ages_82 rfl (s_getf (ci := 11) (j := 4) (C := RX11) (T := TX11) (N := 17) dX11_ages_83 rfl (by decide) (by decide) qf_X11_36 (s_getfN (ci := 5) (j := 3) (C := RX5) (T := TX5) (N := 6) dX11_ages_86 rfl (by decide) (by decide) qn_X11_233 (s_iret dX11_ages_89 rfl)))) (s_aload_n dX11_ages_61 rfl (s_getf (ci := 11) (j := 7) (C := RX11) (T := TX11) (N := 17) dX11_ages_62 rfl (by decide) (by decide) qf_X11_53 (s_aload_n dX11_ages_65 rfl (s_getf (ci := 11) (j := 4) (C := RX11) (T := TX11) (N := 17) dX11_ages_66 rfl (by decide) (by decide) qf_X11_36 (s_invB (w' := (g, d, ck - 3, sk - 286, xX11_ages, Q)) (ci := 0) (ck := 3) (sk := 286) (T := TX0) (N := 6) dX11_ages_69 m_X0_keep rfl (by decide) qm_X11_212 qi_X0_keep qe_X0_keep rfl (s_aload_n dX11_ages_72 rfl (s_invB (w' := (g, d, ck - 3, sk - 286, xX11_ages, Q)) (ci := 11) (ck := 0) (sk := 0) (T := TX11) (N := 17) dX11_ages_73 m_X11_passYear rfl (by decide) qm_X11_236 qi_X11_passYear qe_X11_passYear rfl (s_iinc dX11_ages_76 (by decide : 2 < 3) (s_goto (tgt := 56) dX11_ages_79 (by decide) (sk_id))))))))))))
theorem dX11_passYear_0 : decode cX11_passYear 0 = .ok (.iconst 0, 1) := by decide +kernel
theorem dX11_passYear_1 : decode cX11_passYear 1 = .ok (.istore_n 1, 1) := by decide +kernel
theorem dX11_passYear_2 : decode cX11_passYear 2 = .ok (.iconst 0, 1) := by decide +kernel
theorem dX11_passYear_3 : decode cX11_passYear 3 = .ok (.istore_n 2, 1) := by decide +kernel
theorem dX11_passYear_4 : decode cX11_passYear 4 = .ok (.iload_n 2, 1) := by decide +kernel
theorem dX11_passYear_5 : decode cX11_passYear 5 = .ok (.aload_n 0, 1) := by decide +kernel
theorem dX11_passYear_6 : decode cX11_passYear 6 = .ok (.getfield 19, 3) := by decide +kernel
theorem dX11_passYear_9 : decode cX11_passYear 9 = .ok (.invokevirtual 400, 3) := by decide +kernel
theorem dX11_passYear_12 : decode cX11_passYear 12 = .ok (.if_icmp .ge 28, 3) := by decide +kernel
theorem dX11_passYear_15 : decode cX11_passYear 15 = .ok (.iload_n 1, 1) := by decide +kernel
theorem dX11_passYear_16 : decode cX11_passYear 16 = .ok (.aload_n 0, 1) := by decide +kernel
theorem dX11_passYear_17 : decode cX11_passYear 17 = .ok (.aload_n 0, 1) := by decide +kernel
theorem dX11_passYear_18 : decode cX11_passYear 18 = .ok (.getfield 36, 3) := by decide +kernel
theorem dX11_passYear_21 : decode cX11_passYear 21 = .ok (.iload_n 2, 1) := by decide +kernel
theorem dX11_passYear_22 : decode cX11_passYear 22 = .ok (.aload_n 0, 1) := by decide +kernel
theorem dX11_passYear_23 : decode cX11_passYear 23 = .ok (.getfield 36, 3) := by decide +kernel
theorem dX11_passYear_26 : decode cX11_passYear 26 = .ok (.getfield 233, 3) := by decide +kernel
theorem dX11_passYear_29 : decode cX11_passYear 29 = .ok (.invokevirtual 435, 3) := by decide +kernel
theorem dX11_passYear_32 : decode cX11_passYear 32 = .ok (.iadd, 1) := by decide +kernel
theorem dX11_passYear_33 : decode cX11_passYear 33 = .ok (.istore_n 1, 1) := by decide +kernel
theorem dX11_passYear_34 : decode cX11_passYear 34 = .ok (.iinc 2 1, 3) := by decide +kernel
theorem dX11_passYear_37 : decode cX11_passYear 37 = .ok (.goto (-33), 3) := by decide +kernel
theorem dX11_passYear_40 : decode cX11_passYear 40 = .ok (.aload_n 0, 1) := by decide +kernel
theorem dX11_passYear_41 : decode cX11_passYear 41 = .ok (.getfield 46, 3) := by decide +kernel
theorem dX11_passYear_44 : decode cX11_passYear 44 = .ok (.aload_n 0, 1) := by decide +kernel
theorem dX11_passYear_45 : decode cX11_passYear 45 = .ok (.getfield 36, 3) := by decide +kernel
theorem dX11_passYear_48 : decode cX11_passYear 48 = .ok (.getfield 256, 3) := by decide +kernel
theorem dX11_passYear_51 : decode cX11_passYear 51 = .ok (.iload_n 1, 1) := by decide +kernel
theorem dX11_passYear_52 : decode cX11_passYear 52 = .ok (.aload_n 0, 1) := by decide +kernel
theorem dX11_passYear_53 : decode cX11_passYear 53 = .ok (.getfield 36, 3) := by decide +kernel
theorem dX11_passYear_56 : decode cX11_passYear 56 = .ok (.invokevirtual 383, 3) := by decide +kernel
theorem dX11_passYear_59 : decode cX11_passYear 59 = .ok (.aload_n 0, 1) := by decide +kernel
theorem dX11_passYear_60 : decode cX11_passYear 60 = .ok (.bipush 7, 2) := by decide +kernel
theorem dX11_passYear_62 : decode cX11_passYear 62 = .ok (.invokevirtual 389, 3) := by decide +kernel
theorem dX11_passYear_65 : decode cX11_passYear 65 = .ok (.invokevirtual 438, 3) := by decide +kernel
theorem dX11_passYear_68 : decode cX11_passYear 68 = .ok (.aload_n 0, 1) := by decide +kernel
theorem dX11_passYear_69 : decode cX11_passYear 69 = .ok (.getfield 36, 3) := by decide +kernel
theorem dX11_passYear_72 : decode cX11_passYear 72 = .ok (.dup, 1) := by decide +kernel
theorem dX11_passYear_73 : decode cX11_passYear 73 = .ok (.getfield 256, 3) := by decide +kernel
theorem dX11_passYear_76 : decode cX11_passYear 76 = .ok (.iconst 1, 1) := by decide +kernel
theorem dX11_passYear_77 : decode cX11_passYear 77 = .ok (.iadd, 1) := by decide +kernel
theorem dX11_passYear_78 : decode cX11_passYear 78 = .ok (.putfield 256, 3) := by decide +kernel
theorem dX11_passYear_81 : decode cX11_passYear 81 = .ok (.aload_n 0, 1) := by decide +kernel
theorem dX11_passYear_82 : decode cX11_passYear 82 = .ok (.getfield 36, 3) := by decide +kernel
theorem dX11_passYear_85 : decode cX11_passYear 85 = .ok (.bipush 60, 2) := by decide +kernel
theorem dX11_passYear_87 : decode cX11_passYear 87 = .ok (.aload_n 0, 1) := by decide +kernel
theorem dX11_passYear_88 : decode cX11_passYear 88 = .ok (.getfield 36, 3) := by decide +kernel
theorem dX11_passYear_91 : decode cX11_passYear 91 = .ok (.getfield 253, 3) := by decide +kernel
theorem dX11_passYear_94 : decode cX11_passYear 94 = .ok (.iconst 1, 1) := by decide +kernel
theorem dX11_passYear_95 : decode cX11_passYear 95 = .ok (.iadd, 1) := by decide +kernel
theorem dX11_passYear_96 : decode cX11_passYear 96 = .ok (.invokestatic 441, 3) := by decide +kernel
theorem dX11_passYear_99 : decode cX11_passYear 99 = .ok (.putfield 253, 3) := by decide +kernel
theorem dX11_passYear_102 : decode cX11_passYear 102 = .ok (.aload_n 0, 1) := by decide +kernel
theorem dX11_passYear_103 : decode cX11_passYear 103 = .ok (.getfield 36, 3) := by decide +kernel
theorem dX11_passYear_106 : decode cX11_passYear 106 = .ok (.dup, 1) := by decide +kernel
theorem dX11_passYear_107 : decode cX11_passYear 107 = .ok (.getfield 233, 3) := by decide +kernel
theorem dX11_passYear_110 : decode cX11_passYear 110 = .ok (.iconst 1, 1) := by decide +kernel
theorem dX11_passYear_111 : decode cX11_passYear 111 = .ok (.iadd, 1) := by decide +kernel
theorem dX11_passYear_112 : decode cX11_passYear 112 = .ok (.putfield 233, 3) := by decide +kernel
theorem dX11_passYear_115 : decode cX11_passYear 115 = .ok (.return_, 1) := by decide +kernel
def kX11_passYear_0 (g : sk_G) (d ck sk : Nat) (Q : sk_P) : sk_K := o_i (0) (o_istore 1 (o_i (0) (o_istore 2 (sk_B (g, d, ck, sk, xX11_passYear, Q) 4))))
theorem tX11_passYear_0 {g : sk_G} {d ck sk : Nat} {Q : sk_P} : sk_S (g, d, ck, sk, xX11_passYear, Q) 0 (kX11_passYear_0 g d ck sk Q) := s_iconst dX11_passYear_0 (s_istore_n dX11_passYear_1 rfl (by decide : 1 < 3) (s_iconst dX11_passYear_2 (s_istore_n dX11_passYear_3 rfl (by decide : 2 < 3) (sk_id))))
set_option maxRecDepth 20000 in
def kX11_passYear_4 (g : sk_G) (d ck sk : Nat) (Q : sk_P) : sk_K := o_iload 2 (o_aload 0 (o_getf 11 1 (o_invT (g, d, ck, sk, xX11_passYear, Q) 1 0 7 (fun Q => kX7_cells_0 g (d - 1) 0 0 Q) (o_icge (o_aload 0 (o_getf 11 6 (o_aload 0 (o_getf 11 4 (o_getf 5 4 (o_iload 1 (o_aload 0 (o_getf 11 4 (o_invB (g, d, ck, sk, xX11_passYear, Q) xX5_strengthInAll 0 5 0 0 (o_aload 0 (o_i (7) (o_invB (g, d, ck, sk, xX11_passYear, Q) xX11_cellsThat 1 11 0 0 (o_invB (g, d, ck, sk, xX11_passYear, Q) xX2_put 4 2 0 0 (o_aload 0 (o_getf 11 4 (o_dup (o_getf 5 4 (o_i (1) (o_iadd (o_puti 5 4 (o_aload 0 (o_getf 11 4 (o_i (60) (o_aload 0 (o_getf 11 4 (o_getf 5 5 (o_i (1) (o_iadd (o_min (g, d, ck, sk, xX11_passYear, Q) (o_puti 5 5 (o_aload 0 (o_getf 11 4 (o_dup (o_getf 5 3 (o_i (1) (o_iadd (o_puti 5 3 (o_ret (g, d, ck, sk, xX11_passYear, Q))))))))))))))))))))))))))))))))))))))) (o_iload 1 (o_aload 0 (o_aload 0 (o_getf 11 4 (o_iload 2 (o_aload 0 (o_getf 11 4 (o_getf 5 3 (o_invB (g, d, ck, sk, xX11_passYear, Q) xX11_fadeCell 3 11 0 0 (o_iadd (o_istore 1 (o_iinc 2 (1) (sk_B (g, d, ck, sk, xX11_passYear, Q) 4)))))))))))))))))
set_option maxRecDepth 20000 in
theorem tX11_passYear_4 {g : sk_G} {d ck sk : Nat} {Q : sk_P} : sk_S (g, d, ck, sk, xX11_passYear, Q) 4 (kX11_passYear_4 g d ck sk Q) := s_iload_n dX11_passYear_4 rfl (s_aload_n dX11_passYear_5 rfl (s_getf (ci := 11) (j := 1) (C := RX11) (T := TX11) (N := 17) dX11_passYear_6 rfl (by decide) (by decide) qf_X11_19 (s_invT (X := xX7_cells) (ci := 7) (T := TX7) (N := 4) (K := (fun Q => kX7_cells_0 g (d - 1) 0 0 Q)) (fun _ => tX7_cells_0) rfl dX11_passYear_9 m_X7_cells rfl (by decide) qm_X11_400 qi_X7_cells qe_X7_cells (s_icge (tgt := 40) dX11_passYear_12 (by decide) (s_aload_n dX11_passYear_40 rfl (s_getf (ci := 11) (j := 6) (C := RX11) (T := TX11) (N := 17) dX11_passYear_41 rfl (by decide) (by decide) qf_X11_46 (s_aload_n dX11_passYear_44 rfl (s_getf (ci := 11) (j := 4) (C := RX11) (T := TX11) (N := 17) dX11_passYear_45 rfl (by decide) (by decide) qf_X11_36 (s_getfN (ci := 5) (j := 4) (C := RX5) (T := TX5) (N := 6) dX11_passYear_48 rfl (by decide) (by decide) qn_X11_256 (s_iload_n dX11_passYear_51 rfl (s_aload_n dX11_passYear_52 rfl (s_getf (ci := 11) (j := 4) (C := RX11) (T := TX11) (N := 17) dX11_passYear_53 rfl (by decide) (by decide) qf_X11_36 (s_invB (w' := (g, d, ck, sk, xX11_passYear, Q)) (ci := 5) (ck := 0) (sk := 0) (T := TX5) (N := 6) dX11_passYear_56 m_X5_strengthInAll rfl (by decide) qm_X11_383 qi_X5_strengthInAll qe_X5_strengthInAll rfl (s_aload_n dX11_passYear_59 rfl (s_bipush dX11_passYear_60 rfl (s_invB (w' := (g, d, ck, sk, xX11_passYear, Q)) (ci := 11) (ck := 0) (sk := 0) (T := TX11) (N := 17) dX11_passYear_62 m_X11_cellsThat rfl (by decide) qm_X11_389 qi_X11_cellsThat qe_X11_cellsThat rfl (s_invB (w' := (g, d, ck, sk, xX11_passYear, Q)) (ci := 2) (ck := 0) (sk := 0) (T := TX2) (N := 1) dX11_passYear_65 m_X2_put rfl (by decide) qm_X11_438 qi_X2_put qe_X2_put rfl (s_aload_n dX11_passYear_68 rfl (s_getf (ci := 11) (j := 4) (C := RX11) (T := TX11) (N := 17) dX11_passYear_69 rfl (by decide) (by decide) qf_X11_36 (s_dup dX11_passYear_72 (s_getfN (ci := 5) (j := 4) (C := RX5) (T := TX5) (N := 6) dX11_passYear_73 rfl (by decide) (by decide) qn_X11_256 (s_iconst dX11_passYear_76 (s_iadd dX11_passYear_77 (s_putiN (ci := 5) (j := 4) (C := RX5) (T := TX5) (N := 6) dX11_passYear_78 rfl (by decide) (by decide) rfl (tyX5_ok 4 (by decide)) qn_X11_256 (s_aload_n dX11_passYear_81 rfl (s_getf (ci := 11) (j := 4) (C := RX11) (T := TX11) (N := 17) dX11_passYear_82 rfl (by decide) (by decide) qf_X11_36 (s_bipush dX11_passYear_85 rfl (s_aload_n dX11_passYear_87 rfl (s_getf (ci := 11) (j := 4) (C := RX11) (T := TX11) (N := 17) dX11_passYear_88 rfl (by decide) (by decide) qf_X11_36 (s_getfN (ci := 5) (j := 5) (C := RX5) (T := TX5) (N := 6) dX11_passYear_91 rfl (by decide) (by decide) qn_X11_253 (s_iconst dX11_passYear_94 (s_iadd dX11_passYear_95 (s_min dX11_passYear_96 qm_X11_441 qs_Mmin qz_J9 qc_Mmin (s_putiN (ci := 5) (j := 5) (C := RX5) (T := TX5) (N := 6) dX11_passYear_99 rfl (by decide) (by decide) rfl (tyX5_ok 5 (by decide)) qn_X11_253 (s_aload_n dX11_passYear_102 rfl (s_getf (ci := 11) (j := 4) (C := RX11) (T := TX11) (N := 17) dX11_passYear_103 rfl (by decide) (by decide) qf_X11_36 (s_dup dX11_passYear_106 (s_getfN (ci := 5) (j := 3) (C := RX5) (T := TX5) (N := 6) dX11_passYear_107 rfl (by decide) (by decide) qn_X11_233 (s_iconst dX11_passYear_110 (s_iadd dX11_passYear_111 (s_putiN (ci := 5) (j := 3) (C := RX5) (T := TX5) (N := 6) dX11_passYear_112 rfl (by decide) (by decide) rfl (tyX5_ok 3 (by decide)) qn_X11_233 (s_ret dX11_passYear_115 rfl)))))))))))))))))))))))))))))))))))))) (s_iload_n dX11_passYear_15 rfl (s_aload_n dX11_passYear_16 rfl (s_aload_n dX11_passYear_17 rfl (s_getf (ci := 11) (j := 4) (C := RX11) (T := TX11) (N := 17) dX11_passYear_18 rfl (by decide) (by decide) qf_X11_36 (s_iload_n dX11_passYear_21 rfl (s_aload_n dX11_passYear_22 rfl (s_getf (ci := 11) (j := 4) (C := RX11) (T := TX11) (N := 17) dX11_passYear_23 rfl (by decide) (by decide) qf_X11_36 (s_getfN (ci := 5) (j := 3) (C := RX5) (T := TX5) (N := 6) dX11_passYear_26 rfl (by decide) (by decide) qn_X11_233 (s_invB (w' := (g, d, ck, sk, xX11_passYear, Q)) (ci := 11) (ck := 0) (sk := 0) (T := TX11) (N := 17) dX11_passYear_29 m_X11_fadeCell rfl (by decide) qm_X11_435 qi_X11_fadeCell qe_X11_fadeCell rfl (s_iadd dX11_passYear_32 (s_istore_n dX11_passYear_33 rfl (by decide : 1 < 3) (s_iinc dX11_passYear_34 (by decide : 2 < 3) (s_goto (tgt := 4) dX11_passYear_37 (by decide) (sk_id))))))))))))))))))
theorem dX11_fadeCell_0 : decode cX11_fadeCell 0 = .ok (.aload_n 1, 1) := by decide +kernel
theorem dX11_fadeCell_1 : decode cX11_fadeCell 1 = .ok (.getfield 181, 3) := by decide +kernel
theorem dX11_fadeCell_4 : decode cX11_fadeCell 4 = .ok (.iload_n 2, 1) := by decide +kernel
theorem dX11_fadeCell_5 : decode cX11_fadeCell 5 = .ok (.iaload, 1) := by decide +kernel
theorem dX11_fadeCell_6 : decode cX11_fadeCell 6 = .ok (.istore 4, 2) := by decide +kernel
theorem dX11_fadeCell_8 : decode cX11_fadeCell 8 = .ok (.aload_n 0, 1) := by decide +kernel
theorem dX11_fadeCell_9 : decode cX11_fadeCell 9 = .ok (.getfield 19, 3) := by decide +kernel
theorem dX11_fadeCell_12 : decode cX11_fadeCell 12 = .ok (.iload_n 2, 1) := by decide +kernel
theorem dX11_fadeCell_13 : decode cX11_fadeCell 13 = .ok (.invokevirtual 322, 3) := by decide +kernel
theorem dX11_fadeCell_16 : decode cX11_fadeCell 16 = .ok (.istore 5, 2) := by decide +kernel
theorem dX11_fadeCell_18 : decode cX11_fadeCell 18 = .ok (.iconst 0, 1) := by decide +kernel
theorem dX11_fadeCell_19 : decode cX11_fadeCell 19 = .ok (.istore 6, 2) := by decide +kernel
theorem dX11_fadeCell_21 : decode cX11_fadeCell 21 = .ok (.iconst 0, 1) := by decide +kernel
theorem dX11_fadeCell_22 : decode cX11_fadeCell 22 = .ok (.istore 7, 2) := by decide +kernel
theorem dX11_fadeCell_24 : decode cX11_fadeCell 24 = .ok (.iload 7, 2) := by decide +kernel
theorem dX11_fadeCell_26 : decode cX11_fadeCell 26 = .ok (.iload 4, 2) := by decide +kernel
theorem dX11_fadeCell_28 : decode cX11_fadeCell 28 = .ok (.if_icmp .ge 67, 3) := by decide +kernel
theorem dX11_fadeCell_31 : decode cX11_fadeCell 31 = .ok (.aload_n 1, 1) := by decide +kernel
theorem dX11_fadeCell_32 : decode cX11_fadeCell 32 = .ok (.iload_n 2, 1) := by decide +kernel
theorem dX11_fadeCell_33 : decode cX11_fadeCell 33 = .ok (.iload 7, 2) := by decide +kernel
theorem dX11_fadeCell_35 : decode cX11_fadeCell 35 = .ok (.invokevirtual 184, 3) := by decide +kernel
theorem dX11_fadeCell_38 : decode cX11_fadeCell 38 = .ok (.istore 8, 2) := by decide +kernel
theorem dX11_fadeCell_40 : decode cX11_fadeCell 40 = .ok (.iload 8, 2) := by decide +kernel
theorem dX11_fadeCell_42 : decode cX11_fadeCell 42 = .ok (.invokestatic 193, 3) := by decide +kernel
theorem dX11_fadeCell_45 : decode cX11_fadeCell 45 = .ok (.aload_n 0, 1) := by decide +kernel
theorem dX11_fadeCell_46 : decode cX11_fadeCell 46 = .ok (.iload 8, 2) := by decide +kernel
theorem dX11_fadeCell_48 : decode cX11_fadeCell 48 = .ok (.iload 4, 2) := by decide +kernel
theorem dX11_fadeCell_50 : decode cX11_fadeCell 50 = .ok (.iconst 1, 1) := by decide +kernel
theorem dX11_fadeCell_51 : decode cX11_fadeCell 51 = .ok (.isub, 1) := by decide +kernel
theorem dX11_fadeCell_52 : decode cX11_fadeCell 52 = .ok (.iload 7, 2) := by decide +kernel
theorem dX11_fadeCell_54 : decode cX11_fadeCell 54 = .ok (.isub, 1) := by decide +kernel
theorem dX11_fadeCell_55 : decode cX11_fadeCell 55 = .ok (.iload 5, 2) := by decide +kernel
theorem dX11_fadeCell_57 : decode cX11_fadeCell 57 = .ok (.iload_n 3, 1) := by decide +kernel
theorem dX11_fadeCell_58 : decode cX11_fadeCell 58 = .ok (.bipush 100, 2) := by decide +kernel
theorem dX11_fadeCell_60 : decode cX11_fadeCell 60 = .ok (.irem, 1) := by decide +kernel
theorem dX11_fadeCell_61 : decode cX11_fadeCell 61 = .ok (.invokevirtual 446, 3) := by decide +kernel
theorem dX11_fadeCell_64 : decode cX11_fadeCell 64 = .ok (.isub, 1) := by decide +kernel
theorem dX11_fadeCell_65 : decode cX11_fadeCell 65 = .ok (.istore 9, 2) := by decide +kernel
theorem dX11_fadeCell_67 : decode cX11_fadeCell 67 = .ok (.iload 9, 2) := by decide +kernel
theorem dX11_fadeCell_69 : decode cX11_fadeCell 69 = .ok (.ifCond .le 20, 3) := by decide +kernel
theorem dX11_fadeCell_72 : decode cX11_fadeCell 72 = .ok (.aload_n 1, 1) := by decide +kernel
theorem dX11_fadeCell_73 : decode cX11_fadeCell 73 = .ok (.iload_n 2, 1) := by decide +kernel
theorem dX11_fadeCell_74 : decode cX11_fadeCell 74 = .ok (.iload 6, 2) := by decide +kernel
theorem dX11_fadeCell_76 : decode cX11_fadeCell 76 = .ok (.iload 8, 2) := by decide +kernel
theorem dX11_fadeCell_78 : decode cX11_fadeCell 78 = .ok (.iload 9, 2) := by decide +kernel
theorem dX11_fadeCell_80 : decode cX11_fadeCell 80 = .ok (.invokestatic 450, 3) := by decide +kernel
theorem dX11_fadeCell_83 : decode cX11_fadeCell 83 = .ok (.invokevirtual 453, 3) := by decide +kernel
theorem dX11_fadeCell_86 : decode cX11_fadeCell 86 = .ok (.iinc 6 1, 3) := by decide +kernel
theorem dX11_fadeCell_89 : decode cX11_fadeCell 89 = .ok (.iinc 7 1, 3) := by decide +kernel
theorem dX11_fadeCell_92 : decode cX11_fadeCell 92 = .ok (.goto (-68), 3) := by decide +kernel
theorem dX11_fadeCell_95 : decode cX11_fadeCell 95 = .ok (.aload_n 1, 1) := by decide +kernel
theorem dX11_fadeCell_96 : decode cX11_fadeCell 96 = .ok (.getfield 181, 3) := by decide +kernel
theorem dX11_fadeCell_99 : decode cX11_fadeCell 99 = .ok (.iload_n 2, 1) := by decide +kernel
theorem dX11_fadeCell_100 : decode cX11_fadeCell 100 = .ok (.iload 6, 2) := by decide +kernel
theorem dX11_fadeCell_102 : decode cX11_fadeCell 102 = .ok (.iastore, 1) := by decide +kernel
theorem dX11_fadeCell_103 : decode cX11_fadeCell 103 = .ok (.iload 4, 2) := by decide +kernel
theorem dX11_fadeCell_105 : decode cX11_fadeCell 105 = .ok (.iload 6, 2) := by decide +kernel
theorem dX11_fadeCell_107 : decode cX11_fadeCell 107 = .ok (.isub, 1) := by decide +kernel
theorem dX11_fadeCell_108 : decode cX11_fadeCell 108 = .ok (.ireturn, 1) := by decide +kernel
set_option maxRecDepth 20000 in
def kX11_fadeCell_0 (g : sk_G) (d ck sk : Nat) (Q : sk_P) : sk_K := o_aload 1 (o_getf 5 1 (o_iload 2 (o_iaload (o_istore 4 (o_aload 0 (o_getf 11 1 (o_iload 2 (o_invT (g, d, ck, sk, xX11_fadeCell, Q) 2 1 7 (fun Q => kX7_rowOf_0 g (d - 1) 0 0 Q) (o_istore 5 (o_i (0) (o_istore 6 (o_i (0) (o_istore 7 (sk_B (g, d, ck, sk, xX11_fadeCell, Q) 24))))))))))))))
set_option maxRecDepth 20000 in
theorem tX11_fadeCell_0 {g : sk_G} {d ck sk : Nat} {Q : sk_P} : sk_S (g, d, ck, sk, xX11_fadeCell, Q) 0 (kX11_fadeCell_0 g d ck sk Q) := s_aload_n dX11_fadeCell_0 rfl (s_getfN (ci := 5) (j := 1) (C := RX5) (T := TX5) (N := 6) dX11_fadeCell_1 rfl (by decide) (by decide) qn_X11_181 (s_iload_n dX11_fadeCell_4 rfl (s_iaload dX11_fadeCell_5 (s_istore dX11_fadeCell_6 (by decide : 4 < 10) (s_aload_n dX11_fadeCell_8 rfl (s_getf (ci := 11) (j := 1) (C := RX11) (T := TX11) (N := 17) dX11_fadeCell_9 rfl (by decide) (by decide) qf_X11_19 (s_iload_n dX11_fadeCell_12 rfl (s_invT (X := xX7_rowOf) (ci := 7) (T := TX7) (N := 4) (K := (fun Q => kX7_rowOf_0 g (d - 1) 0 0 Q)) (fun _ => tX7_rowOf_0) rfl dX11_fadeCell_13 m_X7_rowOf rfl (by decide) qm_X11_322 qi_X7_rowOf qe_X7_rowOf (s_istore dX11_fadeCell_16 (by decide : 5 < 10) (s_iconst dX11_fadeCell_18 (s_istore dX11_fadeCell_19 (by decide : 6 < 10) (s_iconst dX11_fadeCell_21 (s_istore dX11_fadeCell_22 (by decide : 7 < 10) (sk_id))))))))))))))
set_option maxRecDepth 20000 in
def kX11_fadeCell_24 (g : sk_G) (d ck sk : Nat) (Q : sk_P) : sk_K := o_iload 7 (o_iload 4 (o_icge (o_aload 1 (o_getf 5 1 (o_iload 2 (o_iload 6 (o_iastore (o_iload 4 (o_iload 6 (o_isub (o_iret (g, d, ck, sk, xX11_fadeCell, Q)))))))))) (o_aload 1 (o_iload 2 (o_iload 7 (o_invT (g, d, ck, sk, xX11_fadeCell, Q) 3 2 5 (fun Q => kX5_codeAt_0 g (d - 1) 0 0 Q) (o_istore 8 (o_iload 8 (o_stcT (g, d, ck, sk, xX11_fadeCell, Q) 1 1 (fun Q => kX5_strengthIn_0 g (d - 1) 0 0 Q) (o_aload 0 (o_iload 8 (o_iload 4 (o_i (1) (o_isub (o_iload 7 (o_isub (o_iload 5 (o_iload 3 (o_i (100) (o_irem (o_invB (g, d, ck, sk, xX11_fadeCell, Q) xX11_fading 4 11 0 0 (o_isub (o_istore 9 (o_iload 9 (o_ifle (o_iinc 7 (1) (sk_B (g, d, ck, sk, xX11_fadeCell, Q) 24)) (o_aload 1 (o_iload 2 (o_iload 6 (o_iload 8 (o_iload 9 (o_stcT (g, d, ck, sk, xX11_fadeCell, Q) 2 2 (fun Q => kX5_weakened_0 g (d - 1) 0 0 Q) (o_invT (g, d, ck, sk, xX11_fadeCell, Q) 4 3 5 (fun Q => kX5_put_0 g (d - 1) 0 0 Q) (o_iinc 6 (1) (o_iinc 7 (1) (sk_B (g, d, ck, sk, xX11_fadeCell, Q) 24)))))))))))))))))))))))))))))))))))
set_option maxRecDepth 20000 in
theorem tX11_fadeCell_24 {g : sk_G} {d ck sk : Nat} {Q : sk_P} : sk_S (g, d, ck, sk, xX11_fadeCell, Q) 24 (kX11_fadeCell_24 g d ck sk Q) := s_iload dX11_fadeCell_24 (s_iload dX11_fadeCell_26 (s_icge (tgt := 95) dX11_fadeCell_28 (by decide) (s_aload_n dX11_fadeCell_95 rfl (s_getfN (ci := 5) (j := 1) (C := RX5) (T := TX5) (N := 6) dX11_fadeCell_96 rfl (by decide) (by decide) qn_X11_181 (s_iload_n dX11_fadeCell_99 rfl (s_iload dX11_fadeCell_100 (s_iastore dX11_fadeCell_102 (s_iload dX11_fadeCell_103 (s_iload dX11_fadeCell_105 (s_isub dX11_fadeCell_107 (s_iret dX11_fadeCell_108 rfl))))))))) (s_aload_n dX11_fadeCell_31 rfl (s_iload_n dX11_fadeCell_32 rfl (s_iload dX11_fadeCell_33 (s_invT (X := xX5_codeAt) (ci := 5) (T := TX5) (N := 6) (K := (fun Q => kX5_codeAt_0 g (d - 1) 0 0 Q)) (fun _ => tX5_codeAt_0) rfl dX11_fadeCell_35 m_X5_codeAt rfl (by decide) qm_X11_184 qi_X5_codeAt qe_X5_codeAt (s_istore dX11_fadeCell_38 (by decide : 8 < 10) (s_iload dX11_fadeCell_40 (s_stcT (X := xX5_strengthIn) (K := (fun Q => kX5_strengthIn_0 g (d - 1) 0 0 Q)) (fun _ => tX5_strengthIn_0) rfl dX11_fadeCell_42 m_X5_strengthIn qm_X11_193 qs_X5_strengthIn (s_aload_n dX11_fadeCell_45 rfl (s_iload dX11_fadeCell_46 (s_iload dX11_fadeCell_48 (s_iconst dX11_fadeCell_50 (s_isub dX11_fadeCell_51 (s_iload dX11_fadeCell_52 (s_isub dX11_fadeCell_54 (s_iload dX11_fadeCell_55 (s_iload_n dX11_fadeCell_57 rfl (s_bipush dX11_fadeCell_58 rfl (s_irem dX11_fadeCell_60 (s_invB (w' := (g, d, ck, sk, xX11_fadeCell, Q)) (ci := 11) (ck := 0) (sk := 0) (T := TX11) (N := 17) dX11_fadeCell_61 m_X11_fading rfl (by decide) qm_X11_446 qi_X11_fading qe_X11_fading rfl (s_isub dX11_fadeCell_64 (s_istore dX11_fadeCell_65 (by decide : 9 < 10) (s_iload dX11_fadeCell_67 (s_ifle (tgt := 89) dX11_fadeCell_69 (by decide) (s_iinc dX11_fadeCell_89 (by decide : 7 < 10) (s_goto (tgt := 24) dX11_fadeCell_92 (by decide) (sk_id))) (s_aload_n dX11_fadeCell_72 rfl (s_iload_n dX11_fadeCell_73 rfl (s_iload dX11_fadeCell_74 (s_iload dX11_fadeCell_76 (s_iload dX11_fadeCell_78 (s_stcT (X := xX5_weakened) (K := (fun Q => kX5_weakened_0 g (d - 1) 0 0 Q)) (fun _ => tX5_weakened_0) rfl dX11_fadeCell_80 m_X5_weakened qm_X11_450 qs_X5_weakened (s_invT (X := xX5_put) (ci := 5) (T := TX5) (N := 6) (K := (fun Q => kX5_put_0 g (d - 1) 0 0 Q)) (fun _ => tX5_put_0) rfl dX11_fadeCell_83 m_X5_put rfl (by decide) qm_X11_453 qi_X5_put qe_X5_put (s_iinc dX11_fadeCell_86 (by decide : 6 < 10) (s_iinc dX11_fadeCell_89 (by decide : 7 < 10) (s_goto (tgt := 24) dX11_fadeCell_92 (by decide) (sk_id))))))))))))))))))))))))))))))))))))
theorem dX11_fading_0 : decode cX11_fading 0 = .ok (.iload_n 1, 1) := by decide +kernel
theorem dX11_fading_1 : decode cX11_fading 1 = .ok (.invokestatic 190, 3) := by decide +kernel
theorem dX11_fading_4 : decode cX11_fading 4 = .ok (.istore 5, 2) := by decide +kernel
theorem dX11_fading_6 : decode cX11_fading 6 = .ok (.aload_n 0, 1) := by decide +kernel
theorem dX11_fading_7 : decode cX11_fading 7 = .ok (.getfield 19, 3) := by decide +kernel
theorem dX11_fading_10 : decode cX11_fading 10 = .ok (.iload 5, 2) := by decide +kernel
theorem dX11_fading_12 : decode cX11_fading 12 = .ok (.iconst 1, 1) := by decide +kernel
theorem dX11_fading_13 : decode cX11_fading 13 = .ok (.invokevirtual 161, 3) := by decide +kernel
theorem dX11_fading_16 : decode cX11_fading 16 = .ok (.istore 6, 2) := by decide +kernel
theorem dX11_fading_18 : decode cX11_fading 18 = .ok (.aload_n 0, 1) := by decide +kernel
theorem dX11_fading_19 : decode cX11_fading 19 = .ok (.getfield 29, 3) := by decide +kernel
theorem dX11_fading_22 : decode cX11_fading 22 = .ok (.invokevirtual 455, 3) := by decide +kernel
theorem dX11_fading_25 : decode cX11_fading 25 = .ok (.astore 7, 2) := by decide +kernel
theorem dX11_fading_27 : decode cX11_fading 27 = .ok (.aload 7, 2) := by decide +kernel
theorem dX11_fading_29 : decode cX11_fading 29 = .ok (.ifnonnull 6, 3) := by decide +kernel
theorem dX11_fading_32 : decode cX11_fading 32 = .ok (.iload 6, 2) := by decide +kernel
theorem dX11_fading_34 : decode cX11_fading 34 = .ok (.ireturn, 1) := by decide +kernel
theorem dX11_fading_35 : decode cX11_fading 35 = .ok (.aload 7, 2) := by decide +kernel
theorem dX11_fading_37 : decode cX11_fading 37 = .ok (.iload_n 1, 1) := by decide +kernel
theorem dX11_fading_38 : decode cX11_fading 38 = .ok (.invokestatic 193, 3) := by decide +kernel
theorem dX11_fading_41 : decode cX11_fading 41 = .ok (.iload_n 2, 1) := by decide +kernel
theorem dX11_fading_42 : decode cX11_fading 42 = .ok (.iload 6, 2) := by decide +kernel
theorem dX11_fading_44 : decode cX11_fading 44 = .ok (.aload_n 0, 1) := by decide +kernel
theorem dX11_fading_45 : decode cX11_fading 45 = .ok (.getfield 19, 3) := by decide +kernel
theorem dX11_fading_48 : decode cX11_fading 48 = .ok (.iload 5, 2) := by decide +kernel
theorem dX11_fading_50 : decode cX11_fading 50 = .ok (.iconst 0, 1) := by decide +kernel
theorem dX11_fading_51 : decode cX11_fading 51 = .ok (.invokevirtual 161, 3) := by decide +kernel
theorem dX11_fading_54 : decode cX11_fading 54 = .ok (.iload_n 3, 1) := by decide +kernel
theorem dX11_fading_55 : decode cX11_fading 55 = .ok (.iload 4, 2) := by decide +kernel
theorem dX11_fading_57 : decode cX11_fading 57 = .ok (.invokevirtual 459, 3) := by decide +kernel
theorem dX11_fading_60 : decode cX11_fading 60 = .ok (.istore 8, 2) := by decide +kernel
theorem dX11_fading_62 : decode cX11_fading 62 = .ok (.iconst 0, 1) := by decide +kernel
theorem dX11_fading_63 : decode cX11_fading 63 = .ok (.bipush 9, 2) := by decide +kernel
theorem dX11_fading_65 : decode cX11_fading 65 = .ok (.iload 8, 2) := by decide +kernel
theorem dX11_fading_67 : decode cX11_fading 67 = .ok (.invokestatic 441, 3) := by decide +kernel
theorem dX11_fading_70 : decode cX11_fading 70 = .ok (.invokestatic 463, 3) := by decide +kernel
theorem dX11_fading_73 : decode cX11_fading 73 = .ok (.ireturn, 1) := by decide +kernel
set_option maxRecDepth 20000 in
def kX11_fading_0 (g : sk_G) (d ck sk : Nat) (Q : sk_P) : sk_K := o_iload 1 (o_stcT (g, d, ck, sk, xX11_fading, Q) 1 1 (fun Q => kX5_handIn_0 g (d - 1) 0 0 Q) (o_istore 5 (o_aload 0 (o_getf 11 1 (o_iload 5 (o_i (1) (o_invT (g, d, ck, sk, xX11_fading, Q) 3 2 7 (fun Q => kX7_ofHand_0 g (d - 1) 0 0 Q) (o_istore 6 (o_aload 0 (o_getf 11 3 (o_invT (g, d, ck, sk, xX11_fading, Q) 1 0 8 (fun Q => kX8_lawThatHolds_0 g (d - 1) 0 0 Q) (o_astore 7 (o_aload 7 (o_ifnull (o_iload 6 (o_iret (g, d, ck, sk, xX11_fading, Q))) (o_aload 7 (o_iload 1 (o_stcT (g, d, ck, sk, xX11_fading, Q) 1 1 (fun Q => kX5_strengthIn_0 g (d - 1) 0 0 Q) (o_iload 2 (o_iload 6 (o_aload 0 (o_getf 11 1 (o_iload 5 (o_i (0) (o_invT (g, d, ck, sk, xX11_fading, Q) 3 2 7 (fun Q => kX7_ofHand_0 g (d - 1) 0 0 Q) (o_iload 3 (o_iload 4 (o_invB (g, d, ck, sk, xX11_fading, Q) xX1_worth 6 1 0 0 (o_istore 8 (o_i (0) (o_i (9) (o_iload 8 (o_min (g, d, ck, sk, xX11_fading, Q) (o_max (g, d, ck, sk, xX11_fading, Q) (o_iret (g, d, ck, sk, xX11_fading, Q)))))))))))))))))))))))))))))))))))
set_option maxRecDepth 20000 in
theorem tX11_fading_0 {g : sk_G} {d ck sk : Nat} {Q : sk_P} : sk_S (g, d, ck, sk, xX11_fading, Q) 0 (kX11_fading_0 g d ck sk Q) := s_iload_n dX11_fading_0 rfl (s_stcT (X := xX5_handIn) (K := (fun Q => kX5_handIn_0 g (d - 1) 0 0 Q)) (fun _ => tX5_handIn_0) rfl dX11_fading_1 m_X5_handIn qm_X11_190 qs_X5_handIn (s_istore dX11_fading_4 (by decide : 5 < 9) (s_aload_n dX11_fading_6 rfl (s_getf (ci := 11) (j := 1) (C := RX11) (T := TX11) (N := 17) dX11_fading_7 rfl (by decide) (by decide) qf_X11_19 (s_iload dX11_fading_10 (s_iconst dX11_fading_12 (s_invT (X := xX7_ofHand) (ci := 7) (T := TX7) (N := 4) (K := (fun Q => kX7_ofHand_0 g (d - 1) 0 0 Q)) (fun _ => tX7_ofHand_0) rfl dX11_fading_13 m_X7_ofHand rfl (by decide) qm_X11_161 qi_X7_ofHand qe_X7_ofHand (s_istore dX11_fading_16 (by decide : 6 < 9) (s_aload_n dX11_fading_18 rfl (s_getf (ci := 11) (j := 3) (C := RX11) (T := TX11) (N := 17) dX11_fading_19 rfl (by decide) (by decide) qf_X11_29 (s_invT (X := xX8_lawThatHolds) (ci := 8) (T := TX8) (N := 7) (K := (fun Q => kX8_lawThatHolds_0 g (d - 1) 0 0 Q)) (fun _ => tX8_lawThatHolds_0) rfl dX11_fading_22 m_X8_lawThatHolds rfl (by decide) qm_X11_455 qi_X8_lawThatHolds qe_X8_lawThatHolds (s_astore dX11_fading_25 (by decide : 7 < 9) (s_aload dX11_fading_27 (s_ifnonnull (tgt := 35) dX11_fading_29 (by decide) (s_aload dX11_fading_35 (s_iload_n dX11_fading_37 rfl (s_stcT (X := xX5_strengthIn) (K := (fun Q => kX5_strengthIn_0 g (d - 1) 0 0 Q)) (fun _ => tX5_strengthIn_0) rfl dX11_fading_38 m_X5_strengthIn qm_X11_193 qs_X5_strengthIn (s_iload_n dX11_fading_41 rfl (s_iload dX11_fading_42 (s_aload_n dX11_fading_44 rfl (s_getf (ci := 11) (j := 1) (C := RX11) (T := TX11) (N := 17) dX11_fading_45 rfl (by decide) (by decide) qf_X11_19 (s_iload dX11_fading_48 (s_iconst dX11_fading_50 (s_invT (X := xX7_ofHand) (ci := 7) (T := TX7) (N := 4) (K := (fun Q => kX7_ofHand_0 g (d - 1) 0 0 Q)) (fun _ => tX7_ofHand_0) rfl dX11_fading_51 m_X7_ofHand rfl (by decide) qm_X11_161 qi_X7_ofHand qe_X7_ofHand (s_iload_n dX11_fading_54 rfl (s_iload dX11_fading_55 (s_invB (w' := (g, d, ck, sk, xX11_fading, Q)) (ci := 1) (ck := 0) (sk := 0) (T := TX1) (N := 5) dX11_fading_57 m_X1_worth rfl (by decide) qm_X11_459 qi_X1_worth qe_X1_worth rfl (s_istore dX11_fading_60 (by decide : 8 < 9) (s_iconst dX11_fading_62 (s_bipush dX11_fading_63 rfl (s_iload dX11_fading_65 (s_min dX11_fading_67 qm_X11_441 qs_Mmin qz_J9 qc_Mmin (s_max dX11_fading_70 qm_X11_463 qs_Mmax qz_J9 qc_Mmax (s_iret dX11_fading_73 rfl)))))))))))))))))))) (s_iload dX11_fading_32 (s_iret dX11_fading_34 rfl))))))))))))))))
theorem dX11_cellsThat_0 : decode cX11_cellsThat 0 = .ok (.iconst 0, 1) := by decide +kernel
theorem dX11_cellsThat_1 : decode cX11_cellsThat 1 = .ok (.istore_n 2, 1) := by decide +kernel
theorem dX11_cellsThat_2 : decode cX11_cellsThat 2 = .ok (.iconst 0, 1) := by decide +kernel
theorem dX11_cellsThat_3 : decode cX11_cellsThat 3 = .ok (.istore_n 3, 1) := by decide +kernel
theorem dX11_cellsThat_4 : decode cX11_cellsThat 4 = .ok (.iload_n 3, 1) := by decide +kernel
theorem dX11_cellsThat_5 : decode cX11_cellsThat 5 = .ok (.aload_n 0, 1) := by decide +kernel
theorem dX11_cellsThat_6 : decode cX11_cellsThat 6 = .ok (.getfield 19, 3) := by decide +kernel
theorem dX11_cellsThat_9 : decode cX11_cellsThat 9 = .ok (.invokevirtual 400, 3) := by decide +kernel
theorem dX11_cellsThat_12 : decode cX11_cellsThat 12 = .ok (.if_icmp .ge 116, 3) := by decide +kernel
theorem dX11_cellsThat_15 : decode cX11_cellsThat 15 = .ok (.iload_n 1, 1) := by decide +kernel
theorem dX11_cellsThat_16 : decode cX11_cellsThat 16 = .ok (.bipush 6, 2) := by decide +kernel
theorem dX11_cellsThat_18 : decode cX11_cellsThat 18 = .ok (.if_icmp .ne 23, 3) := by decide +kernel
theorem dX11_cellsThat_21 : decode cX11_cellsThat 21 = .ok (.aload_n 0, 1) := by decide +kernel
theorem dX11_cellsThat_22 : decode cX11_cellsThat 22 = .ok (.getfield 36, 3) := by decide +kernel
theorem dX11_cellsThat_25 : decode cX11_cellsThat 25 = .ok (.getfield 181, 3) := by decide +kernel
theorem dX11_cellsThat_28 : decode cX11_cellsThat 28 = .ok (.iload_n 3, 1) := by decide +kernel
theorem dX11_cellsThat_29 : decode cX11_cellsThat 29 = .ok (.iaload, 1) := by decide +kernel
theorem dX11_cellsThat_30 : decode cX11_cellsThat 30 = .ok (.ifCond .ne 7, 3) := by decide +kernel
theorem dX11_cellsThat_33 : decode cX11_cellsThat 33 = .ok (.iconst 1, 1) := by decide +kernel
theorem dX11_cellsThat_34 : decode cX11_cellsThat 34 = .ok (.goto 73, 3) := by decide +kernel
theorem dX11_cellsThat_37 : decode cX11_cellsThat 37 = .ok (.iconst 0, 1) := by decide +kernel
theorem dX11_cellsThat_38 : decode cX11_cellsThat 38 = .ok (.goto 69, 3) := by decide +kernel
theorem dX11_cellsThat_41 : decode cX11_cellsThat 41 = .ok (.iload_n 1, 1) := by decide +kernel
theorem dX11_cellsThat_42 : decode cX11_cellsThat 42 = .ok (.bipush 7, 2) := by decide +kernel
theorem dX11_cellsThat_44 : decode cX11_cellsThat 44 = .ok (.if_icmp .ne 31, 3) := by decide +kernel
theorem dX11_cellsThat_47 : decode cX11_cellsThat 47 = .ok (.aload_n 0, 1) := by decide +kernel
theorem dX11_cellsThat_48 : decode cX11_cellsThat 48 = .ok (.getfield 36, 3) := by decide +kernel
theorem dX11_cellsThat_51 : decode cX11_cellsThat 51 = .ok (.iload_n 3, 1) := by decide +kernel
theorem dX11_cellsThat_52 : decode cX11_cellsThat 52 = .ok (.aload_n 0, 1) := by decide +kernel
theorem dX11_cellsThat_53 : decode cX11_cellsThat 53 = .ok (.getfield 19, 3) := by decide +kernel
theorem dX11_cellsThat_56 : decode cX11_cellsThat 56 = .ok (.invokevirtual 262, 3) := by decide +kernel
theorem dX11_cellsThat_59 : decode cX11_cellsThat 59 = .ok (.invokevirtual 265, 3) := by decide +kernel
theorem dX11_cellsThat_62 : decode cX11_cellsThat 62 = .ok (.bipush 26, 2) := by decide +kernel
theorem dX11_cellsThat_64 : decode cX11_cellsThat 64 = .ok (.if_icmp .eq 7, 3) := by decide +kernel
theorem dX11_cellsThat_67 : decode cX11_cellsThat 67 = .ok (.iconst 1, 1) := by decide +kernel
theorem dX11_cellsThat_68 : decode cX11_cellsThat 68 = .ok (.goto 39, 3) := by decide +kernel
theorem dX11_cellsThat_71 : decode cX11_cellsThat 71 = .ok (.iconst 0, 1) := by decide +kernel
theorem dX11_cellsThat_72 : decode cX11_cellsThat 72 = .ok (.goto 35, 3) := by decide +kernel
theorem dX11_cellsThat_75 : decode cX11_cellsThat 75 = .ok (.iload_n 1, 1) := by decide +kernel
theorem dX11_cellsThat_76 : decode cX11_cellsThat 76 = .ok (.bipush 8, 2) := by decide +kernel
theorem dX11_cellsThat_78 : decode cX11_cellsThat 78 = .ok (.if_icmp .ne 21, 3) := by decide +kernel
theorem dX11_cellsThat_81 : decode cX11_cellsThat 81 = .ok (.aload_n 0, 1) := by decide +kernel
theorem dX11_cellsThat_82 : decode cX11_cellsThat 82 = .ok (.getfield 36, 3) := by decide +kernel
theorem dX11_cellsThat_85 : decode cX11_cellsThat 85 = .ok (.iload_n 3, 1) := by decide +kernel
theorem dX11_cellsThat_86 : decode cX11_cellsThat 86 = .ok (.aload_n 0, 1) := by decide +kernel
theorem dX11_cellsThat_87 : decode cX11_cellsThat 87 = .ok (.getfield 19, 3) := by decide +kernel
theorem dX11_cellsThat_90 : decode cX11_cellsThat 90 = .ok (.invokevirtual 262, 3) := by decide +kernel
theorem dX11_cellsThat_93 : decode cX11_cellsThat 93 = .ok (.invokevirtual 501, 3) := by decide +kernel
theorem dX11_cellsThat_96 : decode cX11_cellsThat 96 = .ok (.goto 11, 3) := by decide +kernel
theorem dX11_cellsThat_99 : decode cX11_cellsThat 99 = .ok (.aload_n 0, 1) := by decide +kernel
theorem dX11_cellsThat_100 : decode cX11_cellsThat 100 = .ok (.getfield 36, 3) := by decide +kernel
theorem dX11_cellsThat_103 : decode cX11_cellsThat 103 = .ok (.iload_n 3, 1) := by decide +kernel
theorem dX11_cellsThat_104 : decode cX11_cellsThat 104 = .ok (.invokevirtual 506, 3) := by decide +kernel
theorem dX11_cellsThat_107 : decode cX11_cellsThat 107 = .ok (.istore 4, 2) := by decide +kernel
theorem dX11_cellsThat_109 : decode cX11_cellsThat 109 = .ok (.iload_n 2, 1) := by decide +kernel
theorem dX11_cellsThat_110 : decode cX11_cellsThat 110 = .ok (.iload 4, 2) := by decide +kernel
theorem dX11_cellsThat_112 : decode cX11_cellsThat 112 = .ok (.ifCond .eq 7, 3) := by decide +kernel
theorem dX11_cellsThat_115 : decode cX11_cellsThat 115 = .ok (.iconst 1, 1) := by decide +kernel
theorem dX11_cellsThat_116 : decode cX11_cellsThat 116 = .ok (.goto 4, 3) := by decide +kernel
theorem dX11_cellsThat_119 : decode cX11_cellsThat 119 = .ok (.iconst 0, 1) := by decide +kernel
theorem dX11_cellsThat_120 : decode cX11_cellsThat 120 = .ok (.iadd, 1) := by decide +kernel
theorem dX11_cellsThat_121 : decode cX11_cellsThat 121 = .ok (.istore_n 2, 1) := by decide +kernel
theorem dX11_cellsThat_122 : decode cX11_cellsThat 122 = .ok (.iinc 3 1, 3) := by decide +kernel
theorem dX11_cellsThat_125 : decode cX11_cellsThat 125 = .ok (.goto (-121), 3) := by decide +kernel
theorem dX11_cellsThat_128 : decode cX11_cellsThat 128 = .ok (.iload_n 2, 1) := by decide +kernel
theorem dX11_cellsThat_129 : decode cX11_cellsThat 129 = .ok (.ireturn, 1) := by decide +kernel
def kX11_cellsThat_0 (g : sk_G) (d ck sk : Nat) (Q : sk_P) : sk_K := o_i (0) (o_istore 2 (o_i (0) (o_istore 3 (sk_B (g, d, ck, sk, xX11_cellsThat, Q) 4))))
theorem tX11_cellsThat_0 {g : sk_G} {d ck sk : Nat} {Q : sk_P} : sk_S (g, d, ck, sk, xX11_cellsThat, Q) 0 (kX11_cellsThat_0 g d ck sk Q) := s_iconst dX11_cellsThat_0 (s_istore_n dX11_cellsThat_1 rfl (by decide : 2 < 5) (s_iconst dX11_cellsThat_2 (s_istore_n dX11_cellsThat_3 rfl (by decide : 3 < 5) (sk_id))))
set_option maxRecDepth 20000 in
def kX11_cellsThat_4 (g : sk_G) (d ck sk : Nat) (Q : sk_P) : sk_K := o_iload 3 (o_aload 0 (o_getf 11 1 (o_invT (g, d, ck, sk, xX11_cellsThat, Q) 1 0 7 (fun Q => kX7_cells_0 g (d - 1) 0 0 Q) (o_icge (o_iload 2 (o_iret (g, d, ck, sk, xX11_cellsThat, Q))) (o_iload 1 (o_i (6) (o_icne (o_iload 1 (o_i (7) (o_icne (o_iload 1 (o_i (8) (o_icne (o_aload 0 (o_getf 11 4 (o_iload 3 (o_invB (g, d, ck, sk, xX11_cellsThat, Q) xX5_isPure 1 5 0 0 (sk_B (g, d, ck, sk, xX11_cellsThat, Q) 107))))) (o_aload 0 (o_getf 11 4 (o_iload 3 (o_aload 0 (o_getf 11 1 (o_invT (g, d, ck, sk, xX11_cellsThat, Q) 1 0 7 (fun Q => kX7_legible_0 g (d - 1) 0 0 Q) (o_invB (g, d, ck, sk, xX11_cellsThat, Q) xX5_hasBeneath 2 5 0 0 (sk_B (g, d, ck, sk, xX11_cellsThat, Q) 107))))))))))) (o_aload 0 (o_getf 11 4 (o_iload 3 (o_aload 0 (o_getf 11 1 (o_invT (g, d, ck, sk, xX11_cellsThat, Q) 1 0 7 (fun Q => kX7_legible_0 g (d - 1) 0 0 Q) (o_invB (g, d, ck, sk, xX11_cellsThat, Q) xX5_shown 2 5 0 0 (o_i (26) (o_iceq (o_i (0) (sk_B (g, d, ck, sk, xX11_cellsThat, Q) 107)) (o_i (1) (sk_B (g, d, ck, sk, xX11_cellsThat, Q) 107)))))))))))))) (o_aload 0 (o_getf 11 4 (o_getf 5 1 (o_iload 3 (o_iaload (o_ifne (o_i (0) (sk_B (g, d, ck, sk, xX11_cellsThat, Q) 107)) (o_i (1) (sk_B (g, d, ck, sk, xX11_cellsThat, Q) 107)))))))))))))))
set_option maxRecDepth 20000 in
theorem tX11_cellsThat_4 {g : sk_G} {d ck sk : Nat} {Q : sk_P} : sk_S (g, d, ck, sk, xX11_cellsThat, Q) 4 (kX11_cellsThat_4 g d ck sk Q) := s_iload_n dX11_cellsThat_4 rfl (s_aload_n dX11_cellsThat_5 rfl (s_getf (ci := 11) (j := 1) (C := RX11) (T := TX11) (N := 17) dX11_cellsThat_6 rfl (by decide) (by decide) qf_X11_19 (s_invT (X := xX7_cells) (ci := 7) (T := TX7) (N := 4) (K := (fun Q => kX7_cells_0 g (d - 1) 0 0 Q)) (fun _ => tX7_cells_0) rfl dX11_cellsThat_9 m_X7_cells rfl (by decide) qm_X11_400 qi_X7_cells qe_X7_cells (s_icge (tgt := 128) dX11_cellsThat_12 (by decide) (s_iload_n dX11_cellsThat_128 rfl (s_iret dX11_cellsThat_129 rfl)) (s_iload_n dX11_cellsThat_15 rfl (s_bipush dX11_cellsThat_16 rfl (s_icne (tgt := 41) dX11_cellsThat_18 (by decide) (s_iload_n dX11_cellsThat_41 rfl (s_bipush dX11_cellsThat_42 rfl (s_icne (tgt := 75) dX11_cellsThat_44 (by decide) (s_iload_n dX11_cellsThat_75 rfl (s_bipush dX11_cellsThat_76 rfl (s_icne (tgt := 99) dX11_cellsThat_78 (by decide) (s_aload_n dX11_cellsThat_99 rfl (s_getf (ci := 11) (j := 4) (C := RX11) (T := TX11) (N := 17) dX11_cellsThat_100 rfl (by decide) (by decide) qf_X11_36 (s_iload_n dX11_cellsThat_103 rfl (s_invB (w' := (g, d, ck, sk, xX11_cellsThat, Q)) (ci := 5) (ck := 0) (sk := 0) (T := TX5) (N := 6) dX11_cellsThat_104 m_X5_isPure rfl (by decide) qm_X11_506 qi_X5_isPure qe_X5_isPure rfl (sk_id))))) (s_aload_n dX11_cellsThat_81 rfl (s_getf (ci := 11) (j := 4) (C := RX11) (T := TX11) (N := 17) dX11_cellsThat_82 rfl (by decide) (by decide) qf_X11_36 (s_iload_n dX11_cellsThat_85 rfl (s_aload_n dX11_cellsThat_86 rfl (s_getf (ci := 11) (j := 1) (C := RX11) (T := TX11) (N := 17) dX11_cellsThat_87 rfl (by decide) (by decide) qf_X11_19 (s_invT (X := xX7_legible) (ci := 7) (T := TX7) (N := 4) (K := (fun Q => kX7_legible_0 g (d - 1) 0 0 Q)) (fun _ => tX7_legible_0) rfl dX11_cellsThat_90 m_X7_legible rfl (by decide) qm_X11_262 qi_X7_legible qe_X7_legible (s_invB (w' := (g, d, ck, sk, xX11_cellsThat, Q)) (ci := 5) (ck := 0) (sk := 0) (T := TX5) (N := 6) dX11_cellsThat_93 m_X5_hasBeneath rfl (by decide) qm_X11_501 qi_X5_hasBeneath qe_X5_hasBeneath rfl (s_goto (tgt := 107) dX11_cellsThat_96 (by decide) (sk_id)))))))))))) (s_aload_n dX11_cellsThat_47 rfl (s_getf (ci := 11) (j := 4) (C := RX11) (T := TX11) (N := 17) dX11_cellsThat_48 rfl (by decide) (by decide) qf_X11_36 (s_iload_n dX11_cellsThat_51 rfl (s_aload_n dX11_cellsThat_52 rfl (s_getf (ci := 11) (j := 1) (C := RX11) (T := TX11) (N := 17) dX11_cellsThat_53 rfl (by decide) (by decide) qf_X11_19 (s_invT (X := xX7_legible) (ci := 7) (T := TX7) (N := 4) (K := (fun Q => kX7_legible_0 g (d - 1) 0 0 Q)) (fun _ => tX7_legible_0) rfl dX11_cellsThat_56 m_X7_legible rfl (by decide) qm_X11_262 qi_X7_legible qe_X7_legible (s_invB (w' := (g, d, ck, sk, xX11_cellsThat, Q)) (ci := 5) (ck := 0) (sk := 0) (T := TX5) (N := 6) dX11_cellsThat_59 m_X5_shown rfl (by decide) qm_X11_265 qi_X5_shown qe_X5_shown rfl (s_bipush dX11_cellsThat_62 rfl (s_iceq (tgt := 71) dX11_cellsThat_64 (by decide) (s_iconst dX11_cellsThat_71 (s_goto (tgt := 107) dX11_cellsThat_72 (by decide) (sk_id))) (s_iconst dX11_cellsThat_67 (s_goto (tgt := 107) dX11_cellsThat_68 (by decide) (sk_id))))))))))))))) (s_aload_n dX11_cellsThat_21 rfl (s_getf (ci := 11) (j := 4) (C := RX11) (T := TX11) (N := 17) dX11_cellsThat_22 rfl (by decide) (by decide) qf_X11_36 (s_getfN (ci := 5) (j := 1) (C := RX5) (T := TX5) (N := 6) dX11_cellsThat_25 rfl (by decide) (by decide) qn_X11_181 (s_iload_n dX11_cellsThat_28 rfl (s_iaload dX11_cellsThat_29 (s_ifne (tgt := 37) dX11_cellsThat_30 (by decide) (s_iconst dX11_cellsThat_37 (s_goto (tgt := 107) dX11_cellsThat_38 (by decide) (sk_id))) (s_iconst dX11_cellsThat_33 (s_goto (tgt := 107) dX11_cellsThat_34 (by decide) (sk_id))))))))))))))))
set_option maxRecDepth 20000 in
def kX11_cellsThat_107 (g : sk_G) (d ck sk : Nat) (Q : sk_P) : sk_K := o_istore 4 (o_iload 2 (o_iload 4 (o_ifeq (o_i (0) (o_iadd (o_istore 2 (o_iinc 3 (1) (sk_B (g, d, ck, sk, xX11_cellsThat, Q) 4))))) (o_i (1) (o_iadd (o_istore 2 (o_iinc 3 (1) (sk_B (g, d, ck, sk, xX11_cellsThat, Q) 4))))))))
set_option maxRecDepth 20000 in
theorem tX11_cellsThat_107 {g : sk_G} {d ck sk : Nat} {Q : sk_P} : sk_S (g, d, ck, sk, xX11_cellsThat, Q) 107 (kX11_cellsThat_107 g d ck sk Q) := s_istore dX11_cellsThat_107 (by decide : 4 < 5) (s_iload_n dX11_cellsThat_109 rfl (s_iload dX11_cellsThat_110 (s_ifeq (tgt := 119) dX11_cellsThat_112 (by decide) (s_iconst dX11_cellsThat_119 (s_iadd dX11_cellsThat_120 (s_istore_n dX11_cellsThat_121 rfl (by decide : 2 < 5) (s_iinc dX11_cellsThat_122 (by decide : 3 < 5) (s_goto (tgt := 4) dX11_cellsThat_125 (by decide) (sk_id)))))) (s_iconst dX11_cellsThat_115 (s_goto (tgt := 120) dX11_cellsThat_116 (by decide) (s_iadd dX11_cellsThat_120 (s_istore_n dX11_cellsThat_121 rfl (by decide : 2 < 5) (s_iinc dX11_cellsThat_122 (by decide : 3 < 5) (s_goto (tgt := 4) dX11_cellsThat_125 (by decide) (sk_id))))))))))
theorem dX11_give_0 : decode cX11_give 0 = .ok (.aload_n 0, 1) := by decide +kernel
theorem dX11_give_1 : decode cX11_give 1 = .ok (.getfield 19, 3) := by decide +kernel
theorem dX11_give_4 : decode cX11_give 4 = .ok (.invokevirtual 141, 3) := by decide +kernel
theorem dX11_give_7 : decode cX11_give 7 = .ok (.ifCond .ne 9, 3) := by decide +kernel
theorem dX11_give_10 : decode cX11_give 10 = .ok (.aload_n 0, 1) := by decide +kernel
theorem dX11_give_11 : decode cX11_give 11 = .ok (.iconst 0, 1) := by decide +kernel
theorem dX11_give_12 : decode cX11_give 12 = .ok (.invokevirtual 199, 3) := by decide +kernel
theorem dX11_give_15 : decode cX11_give 15 = .ok (.ireturn, 1) := by decide +kernel
theorem dX11_give_16 : decode cX11_give 16 = .ok (.iload_n 1, 1) := by decide +kernel
theorem dX11_give_17 : decode cX11_give 17 = .ok (.iconst 1, 1) := by decide +kernel
theorem dX11_give_18 : decode cX11_give 18 = .ok (.if_icmp .lt 24, 3) := by decide +kernel
theorem dX11_give_21 : decode cX11_give 21 = .ok (.iload_n 1, 1) := by decide +kernel
theorem dX11_give_22 : decode cX11_give 22 = .ok (.bipush 50, 2) := by decide +kernel
theorem dX11_give_24 : decode cX11_give 24 = .ok (.if_icmp .gt 18, 3) := by decide +kernel
theorem dX11_give_27 : decode cX11_give 27 = .ok (.aload_n 0, 1) := by decide +kernel
theorem dX11_give_28 : decode cX11_give 28 = .ok (.getfield 36, 3) := by decide +kernel
theorem dX11_give_31 : decode cX11_give 31 = .ok (.getfield 145, 3) := by decide +kernel
theorem dX11_give_34 : decode cX11_give 34 = .ok (.iload_n 1, 1) := by decide +kernel
theorem dX11_give_35 : decode cX11_give 35 = .ok (.iadd, 1) := by decide +kernel
theorem dX11_give_36 : decode cX11_give 36 = .ok (.sipush 999, 3) := by decide +kernel
theorem dX11_give_39 : decode cX11_give 39 = .ok (.if_icmp .le 9, 3) := by decide +kernel
theorem dX11_give_42 : decode cX11_give 42 = .ok (.aload_n 0, 1) := by decide +kernel
theorem dX11_give_43 : decode cX11_give 43 = .ok (.iconst 1, 1) := by decide +kernel
theorem dX11_give_44 : decode cX11_give 44 = .ok (.invokevirtual 199, 3) := by decide +kernel
theorem dX11_give_47 : decode cX11_give 47 = .ok (.ireturn, 1) := by decide +kernel
theorem dX11_give_48 : decode cX11_give 48 = .ok (.aload_n 0, 1) := by decide +kernel
theorem dX11_give_49 : decode cX11_give 49 = .ok (.getfield 53, 3) := by decide +kernel
theorem dX11_give_52 : decode cX11_give 52 = .ok (.aload_n 0, 1) := by decide +kernel
theorem dX11_give_53 : decode cX11_give 53 = .ok (.getfield 36, 3) := by decide +kernel
theorem dX11_give_56 : decode cX11_give 56 = .ok (.invokevirtual 212, 3) := by decide +kernel
theorem dX11_give_59 : decode cX11_give 59 = .ok (.aload_n 0, 1) := by decide +kernel
theorem dX11_give_60 : decode cX11_give 60 = .ok (.getfield 36, 3) := by decide +kernel
theorem dX11_give_63 : decode cX11_give 63 = .ok (.dup, 1) := by decide +kernel
theorem dX11_give_64 : decode cX11_give 64 = .ok (.getfield 145, 3) := by decide +kernel
theorem dX11_give_67 : decode cX11_give 67 = .ok (.iload_n 1, 1) := by decide +kernel
theorem dX11_give_68 : decode cX11_give 68 = .ok (.iadd, 1) := by decide +kernel
theorem dX11_give_69 : decode cX11_give 69 = .ok (.putfield 145, 3) := by decide +kernel
theorem dX11_give_72 : decode cX11_give 72 = .ok (.aload_n 0, 1) := by decide +kernel
theorem dX11_give_73 : decode cX11_give 73 = .ok (.getfield 36, 3) := by decide +kernel
theorem dX11_give_76 : decode cX11_give 76 = .ok (.getfield 145, 3) := by decide +kernel
theorem dX11_give_79 : decode cX11_give 79 = .ok (.ireturn, 1) := by decide +kernel
set_option maxRecDepth 20000 in
def kX11_give_0 (g : sk_G) (d ck sk : Nat) (Q : sk_P) : sk_K := o_aload 0 (o_getf 11 1 (o_invT (g, d, ck, sk, xX11_give, Q) 1 0 7 (fun Q => kX7_isSkin_0 g (d - 1) 0 0 Q) (o_ifne (o_iload 1 (o_i (1) (o_iclt (o_aload 0 (o_i (1) (o_invT (g, d, ck, sk, xX11_give, Q) 2 1 11 (fun Q => kX11_refuse_0 g (d - 1) 0 0 Q) (o_iret (g, d, ck, sk, xX11_give, Q))))) (o_iload 1 (o_i (50) (o_icgt (o_aload 0 (o_i (1) (o_invT (g, d, ck, sk, xX11_give, Q) 2 1 11 (fun Q => kX11_refuse_0 g (d - 1) 0 0 Q) (o_iret (g, d, ck, sk, xX11_give, Q))))) (o_aload 0 (o_getf 11 4 (o_getf 5 2 (o_iload 1 (o_iadd (o_i (999) (o_icle (o_aload 0 (o_getf 11 7 (o_aload 0 (o_getf 11 4 (o_invB (g, d, ck, sk, xX11_give, Q) xX0_keep 1 0 3 286 (o_aload 0 (o_getf 11 4 (o_dup (o_getf 5 2 (o_iload 1 (o_iadd (o_puti 5 2 (o_aload 0 (o_getf 11 4 (o_getf 5 2 (o_iret (g, d, ck - 3, sk - 286, xX11_give, Q))))))))))))))))) (o_aload 0 (o_i (1) (o_invT (g, d, ck, sk, xX11_give, Q) 2 1 11 (fun Q => kX11_refuse_0 g (d - 1) 0 0 Q) (o_iret (g, d, ck, sk, xX11_give, Q)))))))))))))))))) (o_aload 0 (o_i (0) (o_invT (g, d, ck, sk, xX11_give, Q) 2 1 11 (fun Q => kX11_refuse_0 g (d - 1) 0 0 Q) (o_iret (g, d, ck, sk, xX11_give, Q))))))))
set_option maxRecDepth 20000 in
theorem tX11_give_0 {g : sk_G} {d ck sk : Nat} {Q : sk_P} : sk_S (g, d, ck, sk, xX11_give, Q) 0 (kX11_give_0 g d ck sk Q) := s_aload_n dX11_give_0 rfl (s_getf (ci := 11) (j := 1) (C := RX11) (T := TX11) (N := 17) dX11_give_1 rfl (by decide) (by decide) qf_X11_19 (s_invT (X := xX7_isSkin) (ci := 7) (T := TX7) (N := 4) (K := (fun Q => kX7_isSkin_0 g (d - 1) 0 0 Q)) (fun _ => tX7_isSkin_0) rfl dX11_give_4 m_X7_isSkin rfl (by decide) qm_X11_141 qi_X7_isSkin qe_X7_isSkin (s_ifne (tgt := 16) dX11_give_7 (by decide) (s_iload_n dX11_give_16 rfl (s_iconst dX11_give_17 (s_iclt (tgt := 42) dX11_give_18 (by decide) (s_aload_n dX11_give_42 rfl (s_iconst dX11_give_43 (s_invT (X := xX11_refuse) (ci := 11) (T := TX11) (N := 17) (K := (fun Q => kX11_refuse_0 g (d - 1) 0 0 Q)) (fun _ => tX11_refuse_0) rfl dX11_give_44 m_X11_refuse rfl (by decide) qm_X11_199 qi_X11_refuse qe_X11_refuse (s_iret dX11_give_47 rfl)))) (s_iload_n dX11_give_21 rfl (s_bipush dX11_give_22 rfl (s_icgt (tgt := 42) dX11_give_24 (by decide) (s_aload_n dX11_give_42 rfl (s_iconst dX11_give_43 (s_invT (X := xX11_refuse) (ci := 11) (T := TX11) (N := 17) (K := (fun Q => kX11_refuse_0 g (d - 1) 0 0 Q)) (fun _ => tX11_refuse_0) rfl dX11_give_44 m_X11_refuse rfl (by decide) qm_X11_199 qi_X11_refuse qe_X11_refuse (s_iret dX11_give_47 rfl)))) (s_aload_n dX11_give_27 rfl (s_getf (ci := 11) (j := 4) (C := RX11) (T := TX11) (N := 17) dX11_give_28 rfl (by decide) (by decide) qf_X11_36 (s_getfN (ci := 5) (j := 2) (C := RX5) (T := TX5) (N := 6) dX11_give_31 rfl (by decide) (by decide) qn_X11_145 (s_iload_n dX11_give_34 rfl (s_iadd dX11_give_35 (s_sipush dX11_give_36 rfl (s_icle (tgt := 48) dX11_give_39 (by decide) (s_aload_n dX11_give_48 rfl (s_getf (ci := 11) (j := 7) (C := RX11) (T := TX11) (N := 17) dX11_give_49 rfl (by decide) (by decide) qf_X11_53 (s_aload_n dX11_give_52 rfl (s_getf (ci := 11) (j := 4) (C := RX11) (T := TX11) (N := 17) dX11_give_53 rfl (by decide) (by decide) qf_X11_36 (s_invB (w' := (g, d, ck - 3, sk - 286, xX11_give, Q)) (ci := 0) (ck := 3) (sk := 286) (T := TX0) (N := 6) dX11_give_56 m_X0_keep rfl (by decide) qm_X11_212 qi_X0_keep qe_X0_keep rfl (s_aload_n dX11_give_59 rfl (s_getf (ci := 11) (j := 4) (C := RX11) (T := TX11) (N := 17) dX11_give_60 rfl (by decide) (by decide) qf_X11_36 (s_dup dX11_give_63 (s_getfN (ci := 5) (j := 2) (C := RX5) (T := TX5) (N := 6) dX11_give_64 rfl (by decide) (by decide) qn_X11_145 (s_iload_n dX11_give_67 rfl (s_iadd dX11_give_68 (s_putiN (ci := 5) (j := 2) (C := RX5) (T := TX5) (N := 6) dX11_give_69 rfl (by decide) (by decide) rfl (tyX5_ok 2 (by decide)) qn_X11_145 (s_aload_n dX11_give_72 rfl (s_getf (ci := 11) (j := 4) (C := RX11) (T := TX11) (N := 17) dX11_give_73 rfl (by decide) (by decide) qf_X11_36 (s_getfN (ci := 5) (j := 2) (C := RX5) (T := TX5) (N := 6) dX11_give_76 rfl (by decide) (by decide) qn_X11_145 (s_iret dX11_give_79 rfl)))))))))))))))) (s_aload_n dX11_give_42 rfl (s_iconst dX11_give_43 (s_invT (X := xX11_refuse) (ci := 11) (T := TX11) (N := 17) (K := (fun Q => kX11_refuse_0 g (d - 1) 0 0 Q)) (fun _ => tX11_refuse_0) rfl dX11_give_44 m_X11_refuse rfl (by decide) qm_X11_199 qi_X11_refuse qe_X11_refuse (s_iret dX11_give_47 rfl))))))))))))))))) (s_aload_n dX11_give_10 rfl (s_iconst dX11_give_11 (s_invT (X := xX11_refuse) (ci := 11) (T := TX11) (N := 17) (K := (fun Q => kX11_refuse_0 g (d - 1) 0 0 Q)) (fun _ => tX11_refuse_0) rfl dX11_give_12 m_X11_refuse rfl (by decide) qm_X11_199 qi_X11_refuse qe_X11_refuse (s_iret dX11_give_15 rfl)))))))
theorem dX11_years_0 : decode cX11_years 0 = .ok (.aload_n 0, 1) := by decide +kernel
theorem dX11_years_1 : decode cX11_years 1 = .ok (.getfield 19, 3) := by decide +kernel
theorem dX11_years_4 : decode cX11_years 4 = .ok (.invokevirtual 141, 3) := by decide +kernel
theorem dX11_years_7 : decode cX11_years 7 = .ok (.ifCond .eq 29, 3) := by decide +kernel
theorem dX11_years_10 : decode cX11_years 10 = .ok (.iload_n 1, 1) := by decide +kernel
theorem dX11_years_11 : decode cX11_years 11 = .ok (.iconst 1, 1) := by decide +kernel
theorem dX11_years_12 : decode cX11_years 12 = .ok (.if_icmp .lt 24, 3) := by decide +kernel
theorem dX11_years_15 : decode cX11_years 15 = .ok (.iload_n 1, 1) := by decide +kernel
theorem dX11_years_16 : decode cX11_years 16 = .ok (.bipush 30, 2) := by decide +kernel
theorem dX11_years_18 : decode cX11_years 18 = .ok (.if_icmp .gt 18, 3) := by decide +kernel
theorem dX11_years_21 : decode cX11_years 21 = .ok (.aload_n 0, 1) := by decide +kernel
theorem dX11_years_22 : decode cX11_years 22 = .ok (.getfield 36, 3) := by decide +kernel
theorem dX11_years_25 : decode cX11_years 25 = .ok (.getfield 233, 3) := by decide +kernel
theorem dX11_years_28 : decode cX11_years 28 = .ok (.iload_n 1, 1) := by decide +kernel
theorem dX11_years_29 : decode cX11_years 29 = .ok (.iadd, 1) := by decide +kernel
theorem dX11_years_30 : decode cX11_years 30 = .ok (.sipush 999, 3) := by decide +kernel
theorem dX11_years_33 : decode cX11_years 33 = .ok (.if_icmp .le 5, 3) := by decide +kernel
theorem dX11_years_36 : decode cX11_years 36 = .ok (.iconst (-1), 1) := by decide +kernel
theorem dX11_years_37 : decode cX11_years 37 = .ok (.ireturn, 1) := by decide +kernel
theorem dX11_years_38 : decode cX11_years 38 = .ok (.aload_n 0, 1) := by decide +kernel
theorem dX11_years_39 : decode cX11_years 39 = .ok (.lload_n 2, 1) := by decide +kernel
theorem dX11_years_40 : decode cX11_years 40 = .ok (.putfield 239, 3) := by decide +kernel
theorem dX11_years_43 : decode cX11_years 43 = .ok (.iconst 0, 1) := by decide +kernel
theorem dX11_years_44 : decode cX11_years 44 = .ok (.istore 4, 2) := by decide +kernel
theorem dX11_years_46 : decode cX11_years 46 = .ok (.iload 4, 2) := by decide +kernel
theorem dX11_years_48 : decode cX11_years 48 = .ok (.iload_n 1, 1) := by decide +kernel
theorem dX11_years_49 : decode cX11_years 49 = .ok (.if_icmp .ge 32, 3) := by decide +kernel
theorem dX11_years_52 : decode cX11_years 52 = .ok (.aload_n 0, 1) := by decide +kernel
theorem dX11_years_53 : decode cX11_years 53 = .ok (.getfield 53, 3) := by decide +kernel
theorem dX11_years_56 : decode cX11_years 56 = .ok (.aload_n 0, 1) := by decide +kernel
theorem dX11_years_57 : decode cX11_years 57 = .ok (.getfield 36, 3) := by decide +kernel
theorem dX11_years_60 : decode cX11_years 60 = .ok (.invokevirtual 212, 3) := by decide +kernel
theorem dX11_years_63 : decode cX11_years 63 = .ok (.aload_n 0, 1) := by decide +kernel
theorem dX11_years_64 : decode cX11_years 64 = .ok (.invokevirtual 243, 3) := by decide +kernel
theorem dX11_years_67 : decode cX11_years 67 = .ok (.aload_n 0, 1) := by decide +kernel
theorem dX11_years_68 : decode cX11_years 68 = .ok (.invokevirtual 246, 3) := by decide +kernel
theorem dX11_years_71 : decode cX11_years 71 = .ok (.aload_n 0, 1) := by decide +kernel
theorem dX11_years_72 : decode cX11_years 72 = .ok (.invokevirtual 236, 3) := by decide +kernel
theorem dX11_years_75 : decode cX11_years 75 = .ok (.iinc 4 1, 3) := by decide +kernel
theorem dX11_years_78 : decode cX11_years 78 = .ok (.goto (-32), 3) := by decide +kernel
theorem dX11_years_81 : decode cX11_years 81 = .ok (.aload_n 0, 1) := by decide +kernel
theorem dX11_years_82 : decode cX11_years 82 = .ok (.getfield 36, 3) := by decide +kernel
theorem dX11_years_85 : decode cX11_years 85 = .ok (.getfield 233, 3) := by decide +kernel
theorem dX11_years_88 : decode cX11_years 88 = .ok (.ireturn, 1) := by decide +kernel
set_option maxRecDepth 20000 in
def kX11_years_0 (g : sk_G) (d ck sk : Nat) (Q : sk_P) : sk_K := o_aload 0 (o_getf 11 1 (o_invT (g, d, ck, sk, xX11_years, Q) 1 0 7 (fun Q => kX7_isSkin_0 g (d - 1) 0 0 Q) (o_ifeq (o_i (-1) (o_iret (g, d, ck, sk, xX11_years, Q))) (o_iload 1 (o_i (1) (o_iclt (o_i (-1) (o_iret (g, d, ck, sk, xX11_years, Q))) (o_iload 1 (o_i (30) (o_icgt (o_i (-1) (o_iret (g, d, ck, sk, xX11_years, Q))) (o_aload 0 (o_getf 11 4 (o_getf 5 3 (o_iload 1 (o_iadd (o_i (999) (o_icle (o_aload 0 (o_lload 2 (o_putl 11 16 (o_i (0) (o_istore 4 (sk_B (g, d, ck, sk, xX11_years, Q) 46)))))) (o_i (-1) (o_iret (g, d, ck, sk, xX11_years, Q)))))))))))))))))))
set_option maxRecDepth 20000 in
theorem tX11_years_0 {g : sk_G} {d ck sk : Nat} {Q : sk_P} : sk_S (g, d, ck, sk, xX11_years, Q) 0 (kX11_years_0 g d ck sk Q) := s_aload_n dX11_years_0 rfl (s_getf (ci := 11) (j := 1) (C := RX11) (T := TX11) (N := 17) dX11_years_1 rfl (by decide) (by decide) qf_X11_19 (s_invT (X := xX7_isSkin) (ci := 7) (T := TX7) (N := 4) (K := (fun Q => kX7_isSkin_0 g (d - 1) 0 0 Q)) (fun _ => tX7_isSkin_0) rfl dX11_years_4 m_X7_isSkin rfl (by decide) qm_X11_141 qi_X7_isSkin qe_X7_isSkin (s_ifeq (tgt := 36) dX11_years_7 (by decide) (s_iconst dX11_years_36 (s_iret dX11_years_37 rfl)) (s_iload_n dX11_years_10 rfl (s_iconst dX11_years_11 (s_iclt (tgt := 36) dX11_years_12 (by decide) (s_iconst dX11_years_36 (s_iret dX11_years_37 rfl)) (s_iload_n dX11_years_15 rfl (s_bipush dX11_years_16 rfl (s_icgt (tgt := 36) dX11_years_18 (by decide) (s_iconst dX11_years_36 (s_iret dX11_years_37 rfl)) (s_aload_n dX11_years_21 rfl (s_getf (ci := 11) (j := 4) (C := RX11) (T := TX11) (N := 17) dX11_years_22 rfl (by decide) (by decide) qf_X11_36 (s_getfN (ci := 5) (j := 3) (C := RX5) (T := TX5) (N := 6) dX11_years_25 rfl (by decide) (by decide) qn_X11_233 (s_iload_n dX11_years_28 rfl (s_iadd dX11_years_29 (s_sipush dX11_years_30 rfl (s_icle (tgt := 38) dX11_years_33 (by decide) (s_aload_n dX11_years_38 rfl (s_lload_n dX11_years_39 rfl (s_putl (ci := 11) (j := 16) (C := RX11) (T := TX11) (N := 17) dX11_years_40 rfl (by decide) (by decide) rfl (tyX11_ok 16 (by decide)) qf_X11_239 (s_iconst dX11_years_43 (s_istore dX11_years_44 (by decide : 4 < 5) (sk_id)))))) (s_iconst dX11_years_36 (s_iret dX11_years_37 rfl))))))))))))))))))
set_option maxRecDepth 20000 in
def kX11_years_46 (g : sk_G) (d ck sk : Nat) (Q : sk_P) : sk_K := o_iload 4 (o_iload 1 (o_icge (o_aload 0 (o_getf 11 4 (o_getf 5 3 (o_iret (g, d, ck, sk, xX11_years, Q))))) (o_aload 0 (o_getf 11 7 (o_aload 0 (o_getf 11 4 (o_invB (g, d, ck, sk, xX11_years, Q) xX0_keep 1 0 3 286 (o_aload 0 (o_invB (g, d, ck - 3, sk - 286, xX11_years, Q) xX11_writeByDraws 0 11 0 0 (o_aload 0 (o_invB (g, d, ck - 3, sk - 286, xX11_years, Q) xX11_scrapeByDraws 0 11 0 0 (o_aload 0 (o_invB (g, d, ck - 3, sk - 286, xX11_years, Q) xX11_passYear 0 11 0 0 (o_iinc 4 (1) (sk_B (g, d, ck - 3, sk - 286, xX11_years, Q) 46)))))))))))))))
set_option maxRecDepth 20000 in
theorem tX11_years_46 {g : sk_G} {d ck sk : Nat} {Q : sk_P} : sk_S (g, d, ck, sk, xX11_years, Q) 46 (kX11_years_46 g d ck sk Q) := s_iload dX11_years_46 (s_iload_n dX11_years_48 rfl (s_icge (tgt := 81) dX11_years_49 (by decide) (s_aload_n dX11_years_81 rfl (s_getf (ci := 11) (j := 4) (C := RX11) (T := TX11) (N := 17) dX11_years_82 rfl (by decide) (by decide) qf_X11_36 (s_getfN (ci := 5) (j := 3) (C := RX5) (T := TX5) (N := 6) dX11_years_85 rfl (by decide) (by decide) qn_X11_233 (s_iret dX11_years_88 rfl)))) (s_aload_n dX11_years_52 rfl (s_getf (ci := 11) (j := 7) (C := RX11) (T := TX11) (N := 17) dX11_years_53 rfl (by decide) (by decide) qf_X11_53 (s_aload_n dX11_years_56 rfl (s_getf (ci := 11) (j := 4) (C := RX11) (T := TX11) (N := 17) dX11_years_57 rfl (by decide) (by decide) qf_X11_36 (s_invB (w' := (g, d, ck - 3, sk - 286, xX11_years, Q)) (ci := 0) (ck := 3) (sk := 286) (T := TX0) (N := 6) dX11_years_60 m_X0_keep rfl (by decide) qm_X11_212 qi_X0_keep qe_X0_keep rfl (s_aload_n dX11_years_63 rfl (s_invB (w' := (g, d, ck - 3, sk - 286, xX11_years, Q)) (ci := 11) (ck := 0) (sk := 0) (T := TX11) (N := 17) dX11_years_64 m_X11_writeByDraws rfl (by decide) qm_X11_243 qi_X11_writeByDraws qe_X11_writeByDraws rfl (s_aload_n dX11_years_67 rfl (s_invB (w' := (g, d, ck - 3, sk - 286, xX11_years, Q)) (ci := 11) (ck := 0) (sk := 0) (T := TX11) (N := 17) dX11_years_68 m_X11_scrapeByDraws rfl (by decide) qm_X11_246 qi_X11_scrapeByDraws qe_X11_scrapeByDraws rfl (s_aload_n dX11_years_71 rfl (s_invB (w' := (g, d, ck - 3, sk - 286, xX11_years, Q)) (ci := 11) (ck := 0) (sk := 0) (T := TX11) (N := 17) dX11_years_72 m_X11_passYear rfl (by decide) qm_X11_236 qi_X11_passYear qe_X11_passYear rfl (s_iinc dX11_years_75 (by decide : 4 < 5) (s_goto (tgt := 46) dX11_years_78 (by decide) (sk_id))))))))))))))))
theorem dX11_writeByDraws_0 : decode cX11_writeByDraws 0 = .ok (.aload_n 0, 1) := by decide +kernel
theorem dX11_writeByDraws_1 : decode cX11_writeByDraws 1 = .ok (.bipush 10, 2) := by decide +kernel
theorem dX11_writeByDraws_3 : decode cX11_writeByDraws 3 = .ok (.invokevirtual 470, 3) := by decide +kernel
theorem dX11_writeByDraws_6 : decode cX11_writeByDraws 6 = .ok (.aload_n 0, 1) := by decide +kernel
theorem dX11_writeByDraws_7 : decode cX11_writeByDraws 7 = .ok (.getfield 91, 3) := by decide +kernel
theorem dX11_writeByDraws_10 : decode cX11_writeByDraws 10 = .ok (.if_icmp .ge 13, 3) := by decide +kernel
theorem dX11_writeByDraws_13 : decode cX11_writeByDraws 13 = .ok (.aload_n 0, 1) := by decide +kernel
theorem dX11_writeByDraws_14 : decode cX11_writeByDraws 14 = .ok (.getfield 29, 3) := by decide +kernel
theorem dX11_writeByDraws_17 : decode cX11_writeByDraws 17 = .ok (.getfield 342, 3) := by decide +kernel
theorem dX11_writeByDraws_20 : decode cX11_writeByDraws 20 = .ok (.ifCond .ne 4, 3) := by decide +kernel
theorem dX11_writeByDraws_23 : decode cX11_writeByDraws 23 = .ok (.return_, 1) := by decide +kernel
theorem dX11_writeByDraws_24 : decode cX11_writeByDraws 24 = .ok (.aload_n 0, 1) := by decide +kernel
theorem dX11_writeByDraws_25 : decode cX11_writeByDraws 25 = .ok (.getfield 29, 3) := by decide +kernel
theorem dX11_writeByDraws_28 : decode cX11_writeByDraws 28 = .ok (.aload_n 0, 1) := by decide +kernel
theorem dX11_writeByDraws_29 : decode cX11_writeByDraws 29 = .ok (.aload_n 0, 1) := by decide +kernel
theorem dX11_writeByDraws_30 : decode cX11_writeByDraws 30 = .ok (.getfield 29, 3) := by decide +kernel
theorem dX11_writeByDraws_33 : decode cX11_writeByDraws 33 = .ok (.getfield 342, 3) := by decide +kernel
theorem dX11_writeByDraws_36 : decode cX11_writeByDraws 36 = .ok (.invokevirtual 470, 3) := by decide +kernel
theorem dX11_writeByDraws_39 : decode cX11_writeByDraws 39 = .ok (.invokevirtual 171, 3) := by decide +kernel
theorem dX11_writeByDraws_42 : decode cX11_writeByDraws 42 = .ok (.astore_n 1, 1) := by decide +kernel
theorem dX11_writeByDraws_43 : decode cX11_writeByDraws 43 = .ok (.aload_n 0, 1) := by decide +kernel
theorem dX11_writeByDraws_44 : decode cX11_writeByDraws 44 = .ok (.aload_n 0, 1) := by decide +kernel
theorem dX11_writeByDraws_45 : decode cX11_writeByDraws 45 = .ok (.getfield 19, 3) := by decide +kernel
theorem dX11_writeByDraws_48 : decode cX11_writeByDraws 48 = .ok (.getfield 285, 3) := by decide +kernel
theorem dX11_writeByDraws_51 : decode cX11_writeByDraws 51 = .ok (.invokevirtual 470, 3) := by decide +kernel
theorem dX11_writeByDraws_54 : decode cX11_writeByDraws 54 = .ok (.istore_n 2, 1) := by decide +kernel
theorem dX11_writeByDraws_55 : decode cX11_writeByDraws 55 = .ok (.aload_n 0, 1) := by decide +kernel
theorem dX11_writeByDraws_56 : decode cX11_writeByDraws 56 = .ok (.aload_n 0, 1) := by decide +kernel
theorem dX11_writeByDraws_57 : decode cX11_writeByDraws 57 = .ok (.getfield 19, 3) := by decide +kernel
theorem dX11_writeByDraws_60 : decode cX11_writeByDraws 60 = .ok (.invokevirtual 400, 3) := by decide +kernel
theorem dX11_writeByDraws_63 : decode cX11_writeByDraws 63 = .ok (.invokevirtual 470, 3) := by decide +kernel
theorem dX11_writeByDraws_66 : decode cX11_writeByDraws 66 = .ok (.istore_n 3, 1) := by decide +kernel
theorem dX11_writeByDraws_67 : decode cX11_writeByDraws 67 = .ok (.iconst 4, 1) := by decide +kernel
theorem dX11_writeByDraws_68 : decode cX11_writeByDraws 68 = .ok (.iload_n 3, 1) := by decide +kernel
theorem dX11_writeByDraws_69 : decode cX11_writeByDraws 69 = .ok (.imul, 1) := by decide +kernel
theorem dX11_writeByDraws_70 : decode cX11_writeByDraws 70 = .ok (.aload_n 0, 1) := by decide +kernel
theorem dX11_writeByDraws_71 : decode cX11_writeByDraws 71 = .ok (.iconst 4, 1) := by decide +kernel
theorem dX11_writeByDraws_72 : decode cX11_writeByDraws 72 = .ok (.invokevirtual 470, 3) := by decide +kernel
theorem dX11_writeByDraws_75 : decode cX11_writeByDraws 75 = .ok (.iadd, 1) := by decide +kernel
theorem dX11_writeByDraws_76 : decode cX11_writeByDraws 76 = .ok (.istore 4, 2) := by decide +kernel
theorem dX11_writeByDraws_78 : decode cX11_writeByDraws 78 = .ok (.aload_n 0, 1) := by decide +kernel
theorem dX11_writeByDraws_79 : decode cX11_writeByDraws 79 = .ok (.getfield 19, 3) := by decide +kernel
theorem dX11_writeByDraws_82 : decode cX11_writeByDraws 82 = .ok (.aload_n 1, 1) := by decide +kernel
theorem dX11_writeByDraws_83 : decode cX11_writeByDraws 83 = .ok (.iload 4, 2) := by decide +kernel
theorem dX11_writeByDraws_85 : decode cX11_writeByDraws 85 = .ok (.invokevirtual 202, 3) := by decide +kernel
theorem dX11_writeByDraws_88 : decode cX11_writeByDraws 88 = .ok (.ifCond .eq 21, 3) := by decide +kernel
theorem dX11_writeByDraws_91 : decode cX11_writeByDraws 91 = .ok (.aload_n 0, 1) := by decide +kernel
theorem dX11_writeByDraws_92 : decode cX11_writeByDraws 92 = .ok (.aload_n 1, 1) := by decide +kernel
theorem dX11_writeByDraws_93 : decode cX11_writeByDraws 93 = .ok (.iload 4, 2) := by decide +kernel
theorem dX11_writeByDraws_95 : decode cX11_writeByDraws 95 = .ok (.invokevirtual 209, 3) := by decide +kernel
theorem dX11_writeByDraws_98 : decode cX11_writeByDraws 98 = .ok (.ifCond .eq 11, 3) := by decide +kernel
theorem dX11_writeByDraws_101 : decode cX11_writeByDraws 101 = .ok (.aload_n 0, 1) := by decide +kernel
theorem dX11_writeByDraws_102 : decode cX11_writeByDraws 102 = .ok (.aload_n 1, 1) := by decide +kernel
theorem dX11_writeByDraws_103 : decode cX11_writeByDraws 103 = .ok (.iload_n 2, 1) := by decide +kernel
theorem dX11_writeByDraws_104 : decode cX11_writeByDraws 104 = .ok (.iload 4, 2) := by decide +kernel
theorem dX11_writeByDraws_106 : decode cX11_writeByDraws 106 = .ok (.invokevirtual 216, 3) := by decide +kernel
theorem dX11_writeByDraws_109 : decode cX11_writeByDraws 109 = .ok (.return_, 1) := by decide +kernel
set_option maxRecDepth 20000 in
def kX11_writeByDraws_0 (g : sk_G) (d ck sk : Nat) (Q : sk_P) : sk_K := o_aload 0 (o_i (10) (o_invT (g, d, ck, sk, xX11_writeByDraws, Q) 2 1 11 (fun Q => kX11_draw_0 g (d - 1) 0 0 Q) (o_aload 0 (o_getf 11 15 (o_icge (o_ret (g, d, ck, sk, xX11_writeByDraws, Q)) (o_aload 0 (o_getf 11 3 (o_getf 8 5 (o_ifne (o_aload 0 (o_getf 11 3 (o_aload 0 (o_aload 0 (o_getf 11 3 (o_getf 8 5 (o_invT (g, d, ck, sk, xX11_writeByDraws, Q) 2 1 11 (fun Q => kX11_draw_0 g (d - 1) 0 0 Q) (o_invT (g, d, ck, sk, xX11_writeByDraws, Q) 2 1 8 (fun Q => kX8_writingAt_0 g (d - 1) 0 0 Q) (o_astore 1 (o_aload 0 (o_aload 0 (o_getf 11 1 (o_getf 7 2 (o_invT (g, d, ck, sk, xX11_writeByDraws, Q) 2 1 11 (fun Q => kX11_draw_0 g (d - 1) 0 0 Q) (o_istore 2 (o_aload 0 (o_aload 0 (o_getf 11 1 (o_invT (g, d, ck, sk, xX11_writeByDraws, Q) 1 0 7 (fun Q => kX7_cells_0 g (d - 1) 0 0 Q) (o_invT (g, d, ck, sk, xX11_writeByDraws, Q) 2 1 11 (fun Q => kX11_draw_0 g (d - 1) 0 0 Q) (o_istore 3 (o_i (4) (o_iload 3 (o_imul (o_aload 0 (o_i (4) (o_invT (g, d, ck, sk, xX11_writeByDraws, Q) 2 1 11 (fun Q => kX11_draw_0 g (d - 1) 0 0 Q) (o_iadd (o_istore 4 (o_aload 0 (o_getf 11 1 (o_aload 1 (o_iload 4 (o_invB (g, d, ck, sk, xX11_writeByDraws, Q) xX7_does 2 7 0 0 (o_ifeq (o_ret (g, d, ck, sk, xX11_writeByDraws, Q)) (o_aload 0 (o_aload 1 (o_iload 4 (o_invB (g, d, ck, sk, xX11_writeByDraws, Q) xX11_hasRoom 2 11 0 0 (o_ifeq (o_ret (g, d, ck, sk, xX11_writeByDraws, Q)) (o_aload 0 (o_aload 1 (o_iload 2 (o_iload 4 (o_invB (g, d, ck, sk, xX11_writeByDraws, Q) xX11_layDown 3 11 0 0 (o_ret (g, d, ck, sk, xX11_writeByDraws, Q))))))))))))))))))))))))))))))))))))))))))))))) (o_ret (g, d, ck, sk, xX11_writeByDraws, Q)))))))))))
set_option maxRecDepth 20000 in
theorem tX11_writeByDraws_0 {g : sk_G} {d ck sk : Nat} {Q : sk_P} : sk_S (g, d, ck, sk, xX11_writeByDraws, Q) 0 (kX11_writeByDraws_0 g d ck sk Q) := s_aload_n dX11_writeByDraws_0 rfl (s_bipush dX11_writeByDraws_1 rfl (s_invT (X := xX11_draw) (ci := 11) (T := TX11) (N := 17) (K := (fun Q => kX11_draw_0 g (d - 1) 0 0 Q)) (fun _ => tX11_draw_0) rfl dX11_writeByDraws_3 m_X11_draw rfl (by decide) qm_X11_470 qi_X11_draw qe_X11_draw (s_aload_n dX11_writeByDraws_6 rfl (s_getf (ci := 11) (j := 15) (C := RX11) (T := TX11) (N := 17) dX11_writeByDraws_7 rfl (by decide) (by decide) qf_X11_91 (s_icge (tgt := 23) dX11_writeByDraws_10 (by decide) (s_ret dX11_writeByDraws_23 rfl) (s_aload_n dX11_writeByDraws_13 rfl (s_getf (ci := 11) (j := 3) (C := RX11) (T := TX11) (N := 17) dX11_writeByDraws_14 rfl (by decide) (by decide) qf_X11_29 (s_getfN (ci := 8) (j := 5) (C := RX8) (T := TX8) (N := 7) dX11_writeByDraws_17 rfl (by decide) (by decide) qn_X11_342 (s_ifne (tgt := 24) dX11_writeByDraws_20 (by decide) (s_aload_n dX11_writeByDraws_24 rfl (s_getf (ci := 11) (j := 3) (C := RX11) (T := TX11) (N := 17) dX11_writeByDraws_25 rfl (by decide) (by decide) qf_X11_29 (s_aload_n dX11_writeByDraws_28 rfl (s_aload_n dX11_writeByDraws_29 rfl (s_getf (ci := 11) (j := 3) (C := RX11) (T := TX11) (N := 17) dX11_writeByDraws_30 rfl (by decide) (by decide) qf_X11_29 (s_getfN (ci := 8) (j := 5) (C := RX8) (T := TX8) (N := 7) dX11_writeByDraws_33 rfl (by decide) (by decide) qn_X11_342 (s_invT (X := xX11_draw) (ci := 11) (T := TX11) (N := 17) (K := (fun Q => kX11_draw_0 g (d - 1) 0 0 Q)) (fun _ => tX11_draw_0) rfl dX11_writeByDraws_36 m_X11_draw rfl (by decide) qm_X11_470 qi_X11_draw qe_X11_draw (s_invT (X := xX8_writingAt) (ci := 8) (T := TX8) (N := 7) (K := (fun Q => kX8_writingAt_0 g (d - 1) 0 0 Q)) (fun _ => tX8_writingAt_0) rfl dX11_writeByDraws_39 m_X8_writingAt rfl (by decide) qm_X11_171 qi_X8_writingAt qe_X8_writingAt (s_astore_n dX11_writeByDraws_42 rfl (by decide : 1 < 5) (s_aload_n dX11_writeByDraws_43 rfl (s_aload_n dX11_writeByDraws_44 rfl (s_getf (ci := 11) (j := 1) (C := RX11) (T := TX11) (N := 17) dX11_writeByDraws_45 rfl (by decide) (by decide) qf_X11_19 (s_getfN (ci := 7) (j := 2) (C := RX7) (T := TX7) (N := 4) dX11_writeByDraws_48 rfl (by decide) (by decide) qn_X11_285 (s_invT (X := xX11_draw) (ci := 11) (T := TX11) (N := 17) (K := (fun Q => kX11_draw_0 g (d - 1) 0 0 Q)) (fun _ => tX11_draw_0) rfl dX11_writeByDraws_51 m_X11_draw rfl (by decide) qm_X11_470 qi_X11_draw qe_X11_draw (s_istore_n dX11_writeByDraws_54 rfl (by decide : 2 < 5) (s_aload_n dX11_writeByDraws_55 rfl (s_aload_n dX11_writeByDraws_56 rfl (s_getf (ci := 11) (j := 1) (C := RX11) (T := TX11) (N := 17) dX11_writeByDraws_57 rfl (by decide) (by decide) qf_X11_19 (s_invT (X := xX7_cells) (ci := 7) (T := TX7) (N := 4) (K := (fun Q => kX7_cells_0 g (d - 1) 0 0 Q)) (fun _ => tX7_cells_0) rfl dX11_writeByDraws_60 m_X7_cells rfl (by decide) qm_X11_400 qi_X7_cells qe_X7_cells (s_invT (X := xX11_draw) (ci := 11) (T := TX11) (N := 17) (K := (fun Q => kX11_draw_0 g (d - 1) 0 0 Q)) (fun _ => tX11_draw_0) rfl dX11_writeByDraws_63 m_X11_draw rfl (by decide) qm_X11_470 qi_X11_draw qe_X11_draw (s_istore_n dX11_writeByDraws_66 rfl (by decide : 3 < 5) (s_iconst dX11_writeByDraws_67 (s_iload_n dX11_writeByDraws_68 rfl (s_imul dX11_writeByDraws_69 (s_aload_n dX11_writeByDraws_70 rfl (s_iconst dX11_writeByDraws_71 (s_invT (X := xX11_draw) (ci := 11) (T := TX11) (N := 17) (K := (fun Q => kX11_draw_0 g (d - 1) 0 0 Q)) (fun _ => tX11_draw_0) rfl dX11_writeByDraws_72 m_X11_draw rfl (by decide) qm_X11_470 qi_X11_draw qe_X11_draw (s_iadd dX11_writeByDraws_75 (s_istore dX11_writeByDraws_76 (by decide : 4 < 5) (s_aload_n dX11_writeByDraws_78 rfl (s_getf (ci := 11) (j := 1) (C := RX11) (T := TX11) (N := 17) dX11_writeByDraws_79 rfl (by decide) (by decide) qf_X11_19 (s_aload_n dX11_writeByDraws_82 rfl (s_iload dX11_writeByDraws_83 (s_invB (w' := (g, d, ck, sk, xX11_writeByDraws, Q)) (ci := 7) (ck := 0) (sk := 0) (T := TX7) (N := 4) dX11_writeByDraws_85 m_X7_does rfl (by decide) qm_X11_202 qi_X7_does qe_X7_does rfl (s_ifeq (tgt := 109) dX11_writeByDraws_88 (by decide) (s_ret dX11_writeByDraws_109 rfl) (s_aload_n dX11_writeByDraws_91 rfl (s_aload_n dX11_writeByDraws_92 rfl (s_iload dX11_writeByDraws_93 (s_invB (w' := (g, d, ck, sk, xX11_writeByDraws, Q)) (ci := 11) (ck := 0) (sk := 0) (T := TX11) (N := 17) dX11_writeByDraws_95 m_X11_hasRoom rfl (by decide) qm_X11_209 qi_X11_hasRoom qe_X11_hasRoom rfl (s_ifeq (tgt := 109) dX11_writeByDraws_98 (by decide) (s_ret dX11_writeByDraws_109 rfl) (s_aload_n dX11_writeByDraws_101 rfl (s_aload_n dX11_writeByDraws_102 rfl (s_iload_n dX11_writeByDraws_103 rfl (s_iload dX11_writeByDraws_104 (s_invB (w' := (g, d, ck, sk, xX11_writeByDraws, Q)) (ci := 11) (ck := 0) (sk := 0) (T := TX11) (N := 17) dX11_writeByDraws_106 m_X11_layDown rfl (by decide) qm_X11_216 qi_X11_layDown qe_X11_layDown rfl (s_ret dX11_writeByDraws_109 rfl)))))))))))))))))))))))))))))))))))))))))))))) (s_ret dX11_writeByDraws_23 rfl))))))))))
theorem dX11_scrapeByDraws_0 : decode cX11_scrapeByDraws 0 = .ok (.aload_n 0, 1) := by decide +kernel
theorem dX11_scrapeByDraws_1 : decode cX11_scrapeByDraws 1 = .ok (.bipush 10, 2) := by decide +kernel
theorem dX11_scrapeByDraws_3 : decode cX11_scrapeByDraws 3 = .ok (.invokevirtual 470, 3) := by decide +kernel
theorem dX11_scrapeByDraws_6 : decode cX11_scrapeByDraws 6 = .ok (.iconst 3, 1) := by decide +kernel
theorem dX11_scrapeByDraws_7 : decode cX11_scrapeByDraws 7 = .ok (.if_icmp .ge 24, 3) := by decide +kernel
theorem dX11_scrapeByDraws_10 : decode cX11_scrapeByDraws 10 = .ok (.aload_n 0, 1) := by decide +kernel
theorem dX11_scrapeByDraws_11 : decode cX11_scrapeByDraws 11 = .ok (.aload_n 0, 1) := by decide +kernel
theorem dX11_scrapeByDraws_12 : decode cX11_scrapeByDraws 12 = .ok (.getfield 36, 3) := by decide +kernel
theorem dX11_scrapeByDraws_15 : decode cX11_scrapeByDraws 15 = .ok (.aload_n 0, 1) := by decide +kernel
theorem dX11_scrapeByDraws_16 : decode cX11_scrapeByDraws 16 = .ok (.aload_n 0, 1) := by decide +kernel
theorem dX11_scrapeByDraws_17 : decode cX11_scrapeByDraws 17 = .ok (.getfield 19, 3) := by decide +kernel
theorem dX11_scrapeByDraws_20 : decode cX11_scrapeByDraws 20 = .ok (.invokevirtual 473, 3) := by decide +kernel
theorem dX11_scrapeByDraws_23 : decode cX11_scrapeByDraws 23 = .ok (.invokevirtual 470, 3) := by decide +kernel
theorem dX11_scrapeByDraws_26 : decode cX11_scrapeByDraws 26 = .ok (.iconst 2, 1) := by decide +kernel
theorem dX11_scrapeByDraws_27 : decode cX11_scrapeByDraws 27 = .ok (.invokevirtual 229, 3) := by decide +kernel
theorem dX11_scrapeByDraws_30 : decode cX11_scrapeByDraws 30 = .ok (.pop, 1) := by decide +kernel
theorem dX11_scrapeByDraws_31 : decode cX11_scrapeByDraws 31 = .ok (.return_, 1) := by decide +kernel
set_option maxRecDepth 20000 in
def kX11_scrapeByDraws_0 (g : sk_G) (d ck sk : Nat) (Q : sk_P) : sk_K := o_aload 0 (o_i (10) (o_invT (g, d, ck, sk, xX11_scrapeByDraws, Q) 2 1 11 (fun Q => kX11_draw_0 g (d - 1) 0 0 Q) (o_i (3) (o_icge (o_ret (g, d, ck, sk, xX11_scrapeByDraws, Q)) (o_aload 0 (o_aload 0 (o_getf 11 4 (o_aload 0 (o_aload 0 (o_getf 11 1 (o_invT (g, d, ck, sk, xX11_scrapeByDraws, Q) 1 0 7 (fun Q => kX7_rows_0 g (d - 1) 0 0 Q) (o_invT (g, d, ck, sk, xX11_scrapeByDraws, Q) 2 1 11 (fun Q => kX11_draw_0 g (d - 1) 0 0 Q) (o_i (2) (o_invB (g, d, ck, sk, xX11_scrapeByDraws, Q) xX11_scrapeRow 3 11 0 0 (o_pop (o_ret (g, d, ck, sk, xX11_scrapeByDraws, Q)))))))))))))))))
set_option maxRecDepth 20000 in
theorem tX11_scrapeByDraws_0 {g : sk_G} {d ck sk : Nat} {Q : sk_P} : sk_S (g, d, ck, sk, xX11_scrapeByDraws, Q) 0 (kX11_scrapeByDraws_0 g d ck sk Q) := s_aload_n dX11_scrapeByDraws_0 rfl (s_bipush dX11_scrapeByDraws_1 rfl (s_invT (X := xX11_draw) (ci := 11) (T := TX11) (N := 17) (K := (fun Q => kX11_draw_0 g (d - 1) 0 0 Q)) (fun _ => tX11_draw_0) rfl dX11_scrapeByDraws_3 m_X11_draw rfl (by decide) qm_X11_470 qi_X11_draw qe_X11_draw (s_iconst dX11_scrapeByDraws_6 (s_icge (tgt := 31) dX11_scrapeByDraws_7 (by decide) (s_ret dX11_scrapeByDraws_31 rfl) (s_aload_n dX11_scrapeByDraws_10 rfl (s_aload_n dX11_scrapeByDraws_11 rfl (s_getf (ci := 11) (j := 4) (C := RX11) (T := TX11) (N := 17) dX11_scrapeByDraws_12 rfl (by decide) (by decide) qf_X11_36 (s_aload_n dX11_scrapeByDraws_15 rfl (s_aload_n dX11_scrapeByDraws_16 rfl (s_getf (ci := 11) (j := 1) (C := RX11) (T := TX11) (N := 17) dX11_scrapeByDraws_17 rfl (by decide) (by decide) qf_X11_19 (s_invT (X := xX7_rows) (ci := 7) (T := TX7) (N := 4) (K := (fun Q => kX7_rows_0 g (d - 1) 0 0 Q)) (fun _ => tX7_rows_0) rfl dX11_scrapeByDraws_20 m_X7_rows rfl (by decide) qm_X11_473 qi_X7_rows qe_X7_rows (s_invT (X := xX11_draw) (ci := 11) (T := TX11) (N := 17) (K := (fun Q => kX11_draw_0 g (d - 1) 0 0 Q)) (fun _ => tX11_draw_0) rfl dX11_scrapeByDraws_23 m_X11_draw rfl (by decide) qm_X11_470 qi_X11_draw qe_X11_draw (s_iconst dX11_scrapeByDraws_26 (s_invB (w' := (g, d, ck, sk, xX11_scrapeByDraws, Q)) (ci := 11) (ck := 0) (sk := 0) (T := TX11) (N := 17) dX11_scrapeByDraws_27 m_X11_scrapeRow rfl (by decide) qm_X11_229 qi_X11_scrapeRow qe_X11_scrapeRow rfl (s_pop dX11_scrapeByDraws_30 (s_ret dX11_scrapeByDraws_31 rfl))))))))))))))))
theorem dX11_status_0 : decode cX11_status 0 = .ok (.iload_n 1, 1) := by decide +kernel
theorem dX11_status_1 : decode cX11_status 1 = .ok (.ifCond .lt 12, 3) := by decide +kernel
theorem dX11_status_4 : decode cX11_status 4 = .ok (.iload_n 1, 1) := by decide +kernel
theorem dX11_status_5 : decode cX11_status 5 = .ok (.aload_n 0, 1) := by decide +kernel
theorem dX11_status_6 : decode cX11_status 6 = .ok (.getfield 78, 3) := by decide +kernel
theorem dX11_status_9 : decode cX11_status 9 = .ok (.arraylength, 1) := by decide +kernel
theorem dX11_status_10 : decode cX11_status 10 = .ok (.if_icmp .lt 7, 3) := by decide +kernel
theorem dX11_status_13 : decode cX11_status 13 = .ok (.iconst (-1), 1) := by decide +kernel
theorem dX11_status_14 : decode cX11_status 14 = .ok (.goto 9, 3) := by decide +kernel
theorem dX11_status_17 : decode cX11_status 17 = .ok (.aload_n 0, 1) := by decide +kernel
theorem dX11_status_18 : decode cX11_status 18 = .ok (.getfield 78, 3) := by decide +kernel
theorem dX11_status_21 : decode cX11_status 21 = .ok (.iload_n 1, 1) := by decide +kernel
theorem dX11_status_22 : decode cX11_status 22 = .ok (.iaload, 1) := by decide +kernel
theorem dX11_status_23 : decode cX11_status 23 = .ok (.ireturn, 1) := by decide +kernel
set_option maxRecDepth 20000 in
def kX11_status_0 (g : sk_G) (d ck sk : Nat) (Q : sk_P) : sk_K := o_iload 1 (o_iflt (o_i (-1) (o_iret (g, d, ck, sk, xX11_status, Q))) (o_iload 1 (o_aload 0 (o_getf 11 11 (o_alen (o_iclt (o_aload 0 (o_getf 11 11 (o_iload 1 (o_iaload (o_iret (g, d, ck, sk, xX11_status, Q)))))) (o_i (-1) (o_iret (g, d, ck, sk, xX11_status, Q)))))))))
set_option maxRecDepth 20000 in
theorem tX11_status_0 {g : sk_G} {d ck sk : Nat} {Q : sk_P} : sk_S (g, d, ck, sk, xX11_status, Q) 0 (kX11_status_0 g d ck sk Q) := s_iload_n dX11_status_0 rfl (s_iflt (tgt := 13) dX11_status_1 (by decide) (s_iconst dX11_status_13 (s_goto (tgt := 23) dX11_status_14 (by decide) (s_iret dX11_status_23 rfl))) (s_iload_n dX11_status_4 rfl (s_aload_n dX11_status_5 rfl (s_getf (ci := 11) (j := 11) (C := RX11) (T := TX11) (N := 17) dX11_status_6 rfl (by decide) (by decide) qf_X11_78 (s_alen dX11_status_9 (s_iclt (tgt := 17) dX11_status_10 (by decide) (s_aload_n dX11_status_17 rfl (s_getf (ci := 11) (j := 11) (C := RX11) (T := TX11) (N := 17) dX11_status_18 rfl (by decide) (by decide) qf_X11_78 (s_iload_n dX11_status_21 rfl (s_iaload dX11_status_22 (s_iret dX11_status_23 rfl))))) (s_iconst dX11_status_13 (s_goto (tgt := 23) dX11_status_14 (by decide) (s_iret dX11_status_23 rfl)))))))))
theorem dX11_undo_0 : decode cX11_undo 0 = .ok (.aload_n 0, 1) := by decide +kernel
theorem dX11_undo_1 : decode cX11_undo 1 = .ok (.getfield 53, 3) := by decide +kernel
theorem dX11_undo_4 : decode cX11_undo 4 = .ok (.aload_n 0, 1) := by decide +kernel
theorem dX11_undo_5 : decode cX11_undo 5 = .ok (.getfield 36, 3) := by decide +kernel
theorem dX11_undo_8 : decode cX11_undo 8 = .ok (.invokevirtual 249, 3) := by decide +kernel
theorem dX11_undo_11 : decode cX11_undo 11 = .ok (.ireturn, 1) := by decide +kernel
def kX11_undo_0 (g : sk_G) (d ck sk : Nat) (Q : sk_P) : sk_K := o_aload 0 (o_getf 11 7 (o_aload 0 (o_getf 11 4 (o_invB (g, d, ck, sk, xX11_undo, Q) xX0_undoInto 1 0 0 0 (o_iret (g, d, ck, sk, xX11_undo, Q))))))
theorem tX11_undo_0 {g : sk_G} {d ck sk : Nat} {Q : sk_P} : sk_S (g, d, ck, sk, xX11_undo, Q) 0 (kX11_undo_0 g d ck sk Q) := s_aload_n dX11_undo_0 rfl (s_getf (ci := 11) (j := 7) (C := RX11) (T := TX11) (N := 17) dX11_undo_1 rfl (by decide) (by decide) qf_X11_53 (s_aload_n dX11_undo_4 rfl (s_getf (ci := 11) (j := 4) (C := RX11) (T := TX11) (N := 17) dX11_undo_5 rfl (by decide) (by decide) qf_X11_36 (s_invB (w' := (g, d, ck, sk, xX11_undo, Q)) (ci := 0) (ck := 0) (sk := 0) (T := TX0) (N := 6) dX11_undo_8 m_X0_undoInto rfl (by decide) qm_X11_249 qi_X0_undoInto qe_X0_undoInto rfl (s_iret dX11_undo_11 rfl)))))
theorem dX11_log_0 : decode cX11_log 0 = .ok (.iload_n 1, 1) := by decide +kernel
theorem dX11_log_1 : decode cX11_log 1 = .ok (.ifCond .lt 23, 3) := by decide +kernel
theorem dX11_log_4 : decode cX11_log 4 = .ok (.iload_n 1, 1) := by decide +kernel
theorem dX11_log_5 : decode cX11_log 5 = .ok (.aload_n 0, 1) := by decide +kernel
theorem dX11_log_6 : decode cX11_log 6 = .ok (.getfield 36, 3) := by decide +kernel
theorem dX11_log_9 : decode cX11_log 9 = .ok (.getfield 253, 3) := by decide +kernel
theorem dX11_log_12 : decode cX11_log 12 = .ok (.if_icmp .ge 12, 3) := by decide +kernel
theorem dX11_log_15 : decode cX11_log 15 = .ok (.iload_n 2, 1) := by decide +kernel
theorem dX11_log_16 : decode cX11_log 16 = .ok (.ifCond .lt 8, 3) := by decide +kernel
theorem dX11_log_19 : decode cX11_log 19 = .ok (.iload_n 2, 1) := by decide +kernel
theorem dX11_log_20 : decode cX11_log 20 = .ok (.iconst 2, 1) := by decide +kernel
theorem dX11_log_21 : decode cX11_log 21 = .ok (.if_icmp .le 5, 3) := by decide +kernel
theorem dX11_log_24 : decode cX11_log 24 = .ok (.iconst (-1), 1) := by decide +kernel
theorem dX11_log_25 : decode cX11_log 25 = .ok (.ireturn, 1) := by decide +kernel
theorem dX11_log_26 : decode cX11_log 26 = .ok (.aload_n 0, 1) := by decide +kernel
theorem dX11_log_27 : decode cX11_log 27 = .ok (.getfield 46, 3) := by decide +kernel
theorem dX11_log_30 : decode cX11_log 30 = .ok (.aload_n 0, 1) := by decide +kernel
theorem dX11_log_31 : decode cX11_log 31 = .ok (.getfield 36, 3) := by decide +kernel
theorem dX11_log_34 : decode cX11_log 34 = .ok (.getfield 256, 3) := by decide +kernel
theorem dX11_log_37 : decode cX11_log 37 = .ok (.iconst 1, 1) := by decide +kernel
theorem dX11_log_38 : decode cX11_log 38 = .ok (.isub, 1) := by decide +kernel
theorem dX11_log_39 : decode cX11_log 39 = .ok (.iload_n 1, 1) := by decide +kernel
theorem dX11_log_40 : decode cX11_log 40 = .ok (.isub, 1) := by decide +kernel
theorem dX11_log_41 : decode cX11_log 41 = .ok (.iload_n 2, 1) := by decide +kernel
theorem dX11_log_42 : decode cX11_log 42 = .ok (.invokevirtual 259, 3) := by decide +kernel
theorem dX11_log_45 : decode cX11_log 45 = .ok (.ireturn, 1) := by decide +kernel
set_option maxRecDepth 20000 in
def kX11_log_0 (g : sk_G) (d ck sk : Nat) (Q : sk_P) : sk_K := o_iload 1 (o_iflt (o_i (-1) (o_iret (g, d, ck, sk, xX11_log, Q))) (o_iload 1 (o_aload 0 (o_getf 11 4 (o_getf 5 5 (o_icge (o_i (-1) (o_iret (g, d, ck, sk, xX11_log, Q))) (o_iload 2 (o_iflt (o_i (-1) (o_iret (g, d, ck, sk, xX11_log, Q))) (o_iload 2 (o_i (2) (o_icle (o_aload 0 (o_getf 11 6 (o_aload 0 (o_getf 11 4 (o_getf 5 4 (o_i (1) (o_isub (o_iload 1 (o_isub (o_iload 2 (o_invB (g, d, ck, sk, xX11_log, Q) xX2_told 2 2 0 0 (o_iret (g, d, ck, sk, xX11_log, Q))))))))))))) (o_i (-1) (o_iret (g, d, ck, sk, xX11_log, Q))))))))))))))
set_option maxRecDepth 20000 in
theorem tX11_log_0 {g : sk_G} {d ck sk : Nat} {Q : sk_P} : sk_S (g, d, ck, sk, xX11_log, Q) 0 (kX11_log_0 g d ck sk Q) := s_iload_n dX11_log_0 rfl (s_iflt (tgt := 24) dX11_log_1 (by decide) (s_iconst dX11_log_24 (s_iret dX11_log_25 rfl)) (s_iload_n dX11_log_4 rfl (s_aload_n dX11_log_5 rfl (s_getf (ci := 11) (j := 4) (C := RX11) (T := TX11) (N := 17) dX11_log_6 rfl (by decide) (by decide) qf_X11_36 (s_getfN (ci := 5) (j := 5) (C := RX5) (T := TX5) (N := 6) dX11_log_9 rfl (by decide) (by decide) qn_X11_253 (s_icge (tgt := 24) dX11_log_12 (by decide) (s_iconst dX11_log_24 (s_iret dX11_log_25 rfl)) (s_iload_n dX11_log_15 rfl (s_iflt (tgt := 24) dX11_log_16 (by decide) (s_iconst dX11_log_24 (s_iret dX11_log_25 rfl)) (s_iload_n dX11_log_19 rfl (s_iconst dX11_log_20 (s_icle (tgt := 26) dX11_log_21 (by decide) (s_aload_n dX11_log_26 rfl (s_getf (ci := 11) (j := 6) (C := RX11) (T := TX11) (N := 17) dX11_log_27 rfl (by decide) (by decide) qf_X11_46 (s_aload_n dX11_log_30 rfl (s_getf (ci := 11) (j := 4) (C := RX11) (T := TX11) (N := 17) dX11_log_31 rfl (by decide) (by decide) qf_X11_36 (s_getfN (ci := 5) (j := 4) (C := RX5) (T := TX5) (N := 6) dX11_log_34 rfl (by decide) (by decide) qn_X11_256 (s_iconst dX11_log_37 (s_isub dX11_log_38 (s_iload_n dX11_log_39 rfl (s_isub dX11_log_40 (s_iload_n dX11_log_41 rfl (s_invB (w' := (g, d, ck, sk, xX11_log, Q)) (ci := 2) (ck := 0) (sk := 0) (T := TX2) (N := 1) dX11_log_42 m_X2_told rfl (by decide) qm_X11_259 qi_X2_told qe_X2_told rfl (s_iret dX11_log_45 rfl)))))))))))) (s_iconst dX11_log_24 (s_iret dX11_log_25 rfl)))))))))))))
theorem dX11_shows_0 : decode cX11_shows 0 = .ok (.aload_n 0, 1) := by decide +kernel
theorem dX11_shows_1 : decode cX11_shows 1 = .ok (.getfield 19, 3) := by decide +kernel
theorem dX11_shows_4 : decode cX11_shows 4 = .ok (.iload_n 1, 1) := by decide +kernel
theorem dX11_shows_5 : decode cX11_shows 5 = .ok (.invokevirtual 178, 3) := by decide +kernel
theorem dX11_shows_8 : decode cX11_shows 8 = .ok (.ifCond .eq 21, 3) := by decide +kernel
theorem dX11_shows_11 : decode cX11_shows 11 = .ok (.aload_n 0, 1) := by decide +kernel
theorem dX11_shows_12 : decode cX11_shows 12 = .ok (.getfield 36, 3) := by decide +kernel
theorem dX11_shows_15 : decode cX11_shows 15 = .ok (.iload_n 1, 1) := by decide +kernel
theorem dX11_shows_16 : decode cX11_shows 16 = .ok (.aload_n 0, 1) := by decide +kernel
theorem dX11_shows_17 : decode cX11_shows 17 = .ok (.getfield 19, 3) := by decide +kernel
theorem dX11_shows_20 : decode cX11_shows 20 = .ok (.invokevirtual 262, 3) := by decide +kernel
theorem dX11_shows_23 : decode cX11_shows 23 = .ok (.invokevirtual 265, 3) := by decide +kernel
theorem dX11_shows_26 : decode cX11_shows 26 = .ok (.goto 4, 3) := by decide +kernel
theorem dX11_shows_29 : decode cX11_shows 29 = .ok (.iconst (-1), 1) := by decide +kernel
theorem dX11_shows_30 : decode cX11_shows 30 = .ok (.ireturn, 1) := by decide +kernel
set_option maxRecDepth 20000 in
def kX11_shows_0 (g : sk_G) (d ck sk : Nat) (Q : sk_P) : sk_K := o_aload 0 (o_getf 11 1 (o_iload 1 (o_invT (g, d, ck, sk, xX11_shows, Q) 2 1 7 (fun Q => kX7_hasCell_0 g (d - 1) 0 0 Q) (o_ifeq (o_i (-1) (o_iret (g, d, ck, sk, xX11_shows, Q))) (o_aload 0 (o_getf 11 4 (o_iload 1 (o_aload 0 (o_getf 11 1 (o_invT (g, d, ck, sk, xX11_shows, Q) 1 0 7 (fun Q => kX7_legible_0 g (d - 1) 0 0 Q) (o_invB (g, d, ck, sk, xX11_shows, Q) xX5_shown 2 5 0 0 (o_iret (g, d, ck, sk, xX11_shows, Q)))))))))))))
set_option maxRecDepth 20000 in
theorem tX11_shows_0 {g : sk_G} {d ck sk : Nat} {Q : sk_P} : sk_S (g, d, ck, sk, xX11_shows, Q) 0 (kX11_shows_0 g d ck sk Q) := s_aload_n dX11_shows_0 rfl (s_getf (ci := 11) (j := 1) (C := RX11) (T := TX11) (N := 17) dX11_shows_1 rfl (by decide) (by decide) qf_X11_19 (s_iload_n dX11_shows_4 rfl (s_invT (X := xX7_hasCell) (ci := 7) (T := TX7) (N := 4) (K := (fun Q => kX7_hasCell_0 g (d - 1) 0 0 Q)) (fun _ => tX7_hasCell_0) rfl dX11_shows_5 m_X7_hasCell rfl (by decide) qm_X11_178 qi_X7_hasCell qe_X7_hasCell (s_ifeq (tgt := 29) dX11_shows_8 (by decide) (s_iconst dX11_shows_29 (s_iret dX11_shows_30 rfl)) (s_aload_n dX11_shows_11 rfl (s_getf (ci := 11) (j := 4) (C := RX11) (T := TX11) (N := 17) dX11_shows_12 rfl (by decide) (by decide) qf_X11_36 (s_iload_n dX11_shows_15 rfl (s_aload_n dX11_shows_16 rfl (s_getf (ci := 11) (j := 1) (C := RX11) (T := TX11) (N := 17) dX11_shows_17 rfl (by decide) (by decide) qf_X11_19 (s_invT (X := xX7_legible) (ci := 7) (T := TX7) (N := 4) (K := (fun Q => kX7_legible_0 g (d - 1) 0 0 Q)) (fun _ => tX7_legible_0) rfl dX11_shows_20 m_X7_legible rfl (by decide) qm_X11_262 qi_X7_legible qe_X7_legible (s_invB (w' := (g, d, ck, sk, xX11_shows, Q)) (ci := 5) (ck := 0) (sk := 0) (T := TX5) (N := 6) dX11_shows_23 m_X5_shown rfl (by decide) qm_X11_265 qi_X5_shown qe_X5_shown rfl (s_goto (tgt := 30) dX11_shows_26 (by decide) (s_iret dX11_shows_30 rfl)))))))))))))
theorem dX11_lamp_0 : decode cX11_lamp 0 = .ok (.aload_n 0, 1) := by decide +kernel
theorem dX11_lamp_1 : decode cX11_lamp 1 = .ok (.getfield 19, 3) := by decide +kernel
theorem dX11_lamp_4 : decode cX11_lamp 4 = .ok (.iload_n 1, 1) := by decide +kernel
theorem dX11_lamp_5 : decode cX11_lamp 5 = .ok (.invokevirtual 178, 3) := by decide +kernel
theorem dX11_lamp_8 : decode cX11_lamp 8 = .ok (.ifCond .eq 21, 3) := by decide +kernel
theorem dX11_lamp_11 : decode cX11_lamp 11 = .ok (.aload_n 0, 1) := by decide +kernel
theorem dX11_lamp_12 : decode cX11_lamp 12 = .ok (.getfield 36, 3) := by decide +kernel
theorem dX11_lamp_15 : decode cX11_lamp 15 = .ok (.iload_n 1, 1) := by decide +kernel
theorem dX11_lamp_16 : decode cX11_lamp 16 = .ok (.aload_n 0, 1) := by decide +kernel
theorem dX11_lamp_17 : decode cX11_lamp 17 = .ok (.getfield 19, 3) := by decide +kernel
theorem dX11_lamp_20 : decode cX11_lamp 20 = .ok (.invokevirtual 262, 3) := by decide +kernel
theorem dX11_lamp_23 : decode cX11_lamp 23 = .ok (.invokevirtual 268, 3) := by decide +kernel
theorem dX11_lamp_26 : decode cX11_lamp 26 = .ok (.goto 4, 3) := by decide +kernel
theorem dX11_lamp_29 : decode cX11_lamp 29 = .ok (.iconst (-1), 1) := by decide +kernel
theorem dX11_lamp_30 : decode cX11_lamp 30 = .ok (.ireturn, 1) := by decide +kernel
set_option maxRecDepth 20000 in
def kX11_lamp_0 (g : sk_G) (d ck sk : Nat) (Q : sk_P) : sk_K := o_aload 0 (o_getf 11 1 (o_iload 1 (o_invT (g, d, ck, sk, xX11_lamp, Q) 2 1 7 (fun Q => kX7_hasCell_0 g (d - 1) 0 0 Q) (o_ifeq (o_i (-1) (o_iret (g, d, ck, sk, xX11_lamp, Q))) (o_aload 0 (o_getf 11 4 (o_iload 1 (o_aload 0 (o_getf 11 1 (o_invT (g, d, ck, sk, xX11_lamp, Q) 1 0 7 (fun Q => kX7_legible_0 g (d - 1) 0 0 Q) (o_invB (g, d, ck, sk, xX11_lamp, Q) xX5_lit 2 5 0 0 (o_iret (g, d, ck, sk, xX11_lamp, Q)))))))))))))
set_option maxRecDepth 20000 in
theorem tX11_lamp_0 {g : sk_G} {d ck sk : Nat} {Q : sk_P} : sk_S (g, d, ck, sk, xX11_lamp, Q) 0 (kX11_lamp_0 g d ck sk Q) := s_aload_n dX11_lamp_0 rfl (s_getf (ci := 11) (j := 1) (C := RX11) (T := TX11) (N := 17) dX11_lamp_1 rfl (by decide) (by decide) qf_X11_19 (s_iload_n dX11_lamp_4 rfl (s_invT (X := xX7_hasCell) (ci := 7) (T := TX7) (N := 4) (K := (fun Q => kX7_hasCell_0 g (d - 1) 0 0 Q)) (fun _ => tX7_hasCell_0) rfl dX11_lamp_5 m_X7_hasCell rfl (by decide) qm_X11_178 qi_X7_hasCell qe_X7_hasCell (s_ifeq (tgt := 29) dX11_lamp_8 (by decide) (s_iconst dX11_lamp_29 (s_iret dX11_lamp_30 rfl)) (s_aload_n dX11_lamp_11 rfl (s_getf (ci := 11) (j := 4) (C := RX11) (T := TX11) (N := 17) dX11_lamp_12 rfl (by decide) (by decide) qf_X11_36 (s_iload_n dX11_lamp_15 rfl (s_aload_n dX11_lamp_16 rfl (s_getf (ci := 11) (j := 1) (C := RX11) (T := TX11) (N := 17) dX11_lamp_17 rfl (by decide) (by decide) qf_X11_19 (s_invT (X := xX7_legible) (ci := 7) (T := TX7) (N := 4) (K := (fun Q => kX7_legible_0 g (d - 1) 0 0 Q)) (fun _ => tX7_legible_0) rfl dX11_lamp_20 m_X7_legible rfl (by decide) qm_X11_262 qi_X7_legible qe_X7_legible (s_invB (w' := (g, d, ck, sk, xX11_lamp, Q)) (ci := 5) (ck := 0) (sk := 0) (T := TX5) (N := 6) dX11_lamp_23 m_X5_lit rfl (by decide) qm_X11_268 qi_X5_lit qe_X5_lit rfl (s_goto (tgt := 30) dX11_lamp_26 (by decide) (s_iret dX11_lamp_30 rfl)))))))))))))
theorem dX11_agrees_0 : decode cX11_agrees 0 = .ok (.aload_n 0, 1) := by decide +kernel
theorem dX11_agrees_1 : decode cX11_agrees 1 = .ok (.getfield 29, 3) := by decide +kernel
theorem dX11_agrees_4 : decode cX11_agrees 4 = .ok (.iload_n 1, 1) := by decide +kernel
theorem dX11_agrees_5 : decode cX11_agrees 5 = .ok (.invokevirtual 171, 3) := by decide +kernel
theorem dX11_agrees_8 : decode cX11_agrees 8 = .ok (.astore 4, 2) := by decide +kernel
theorem dX11_agrees_10 : decode cX11_agrees 10 = .ok (.iload_n 3, 1) := by decide +kernel
theorem dX11_agrees_11 : decode cX11_agrees 11 = .ok (.ifCond .lt 21, 3) := by decide +kernel
theorem dX11_agrees_14 : decode cX11_agrees 14 = .ok (.iload_n 3, 1) := by decide +kernel
theorem dX11_agrees_15 : decode cX11_agrees 15 = .ok (.iconst 2, 1) := by decide +kernel
theorem dX11_agrees_16 : decode cX11_agrees 16 = .ok (.if_icmp .gt 16, 3) := by decide +kernel
theorem dX11_agrees_19 : decode cX11_agrees 19 = .ok (.aload_n 0, 1) := by decide +kernel
theorem dX11_agrees_20 : decode cX11_agrees 20 = .ok (.getfield 19, 3) := by decide +kernel
theorem dX11_agrees_23 : decode cX11_agrees 23 = .ok (.aload 4, 2) := by decide +kernel
theorem dX11_agrees_25 : decode cX11_agrees 25 = .ok (.iload_n 2, 1) := by decide +kernel
theorem dX11_agrees_26 : decode cX11_agrees 26 = .ok (.invokevirtual 202, 3) := by decide +kernel
theorem dX11_agrees_29 : decode cX11_agrees 29 = .ok (.ifCond .ne 5, 3) := by decide +kernel
theorem dX11_agrees_32 : decode cX11_agrees 32 = .ok (.iconst (-1), 1) := by decide +kernel
theorem dX11_agrees_33 : decode cX11_agrees 33 = .ok (.ireturn, 1) := by decide +kernel
theorem dX11_agrees_34 : decode cX11_agrees 34 = .ok (.aload_n 0, 1) := by decide +kernel
theorem dX11_agrees_35 : decode cX11_agrees 35 = .ok (.iload_n 3, 1) := by decide +kernel
theorem dX11_agrees_36 : decode cX11_agrees 36 = .ok (.aload_n 0, 1) := by decide +kernel
theorem dX11_agrees_37 : decode cX11_agrees 37 = .ok (.getfield 36, 3) := by decide +kernel
theorem dX11_agrees_40 : decode cX11_agrees 40 = .ok (.aload 4, 2) := by decide +kernel
theorem dX11_agrees_42 : decode cX11_agrees 42 = .ok (.iload_n 2, 1) := by decide +kernel
theorem dX11_agrees_43 : decode cX11_agrees 43 = .ok (.invokevirtual 271, 3) := by decide +kernel
theorem dX11_agrees_46 : decode cX11_agrees 46 = .ok (.ireturn, 1) := by decide +kernel
set_option maxRecDepth 20000 in
def kX11_agrees_0 (g : sk_G) (d ck sk : Nat) (Q : sk_P) : sk_K := o_aload 0 (o_getf 11 3 (o_iload 1 (o_invT (g, d, ck, sk, xX11_agrees, Q) 2 1 8 (fun Q => kX8_writingAt_0 g (d - 1) 0 0 Q) (o_astore 4 (o_iload 3 (o_iflt (o_i (-1) (o_iret (g, d, ck, sk, xX11_agrees, Q))) (o_iload 3 (o_i (2) (o_icgt (o_i (-1) (o_iret (g, d, ck, sk, xX11_agrees, Q))) (o_aload 0 (o_getf 11 1 (o_aload 4 (o_iload 2 (o_invB (g, d, ck, sk, xX11_agrees, Q) xX7_does 2 7 0 0 (o_ifne (o_aload 0 (o_iload 3 (o_aload 0 (o_getf 11 4 (o_aload 4 (o_iload 2 (o_invB (g, d, ck, sk, xX11_agrees, Q) xX11_lettersThat 4 11 0 0 (o_iret (g, d, ck, sk, xX11_agrees, Q))))))))) (o_i (-1) (o_iret (g, d, ck, sk, xX11_agrees, Q))))))))))))))))))
set_option maxRecDepth 20000 in
theorem tX11_agrees_0 {g : sk_G} {d ck sk : Nat} {Q : sk_P} : sk_S (g, d, ck, sk, xX11_agrees, Q) 0 (kX11_agrees_0 g d ck sk Q) := s_aload_n dX11_agrees_0 rfl (s_getf (ci := 11) (j := 3) (C := RX11) (T := TX11) (N := 17) dX11_agrees_1 rfl (by decide) (by decide) qf_X11_29 (s_iload_n dX11_agrees_4 rfl (s_invT (X := xX8_writingAt) (ci := 8) (T := TX8) (N := 7) (K := (fun Q => kX8_writingAt_0 g (d - 1) 0 0 Q)) (fun _ => tX8_writingAt_0) rfl dX11_agrees_5 m_X8_writingAt rfl (by decide) qm_X11_171 qi_X8_writingAt qe_X8_writingAt (s_astore dX11_agrees_8 (by decide : 4 < 5) (s_iload_n dX11_agrees_10 rfl (s_iflt (tgt := 32) dX11_agrees_11 (by decide) (s_iconst dX11_agrees_32 (s_iret dX11_agrees_33 rfl)) (s_iload_n dX11_agrees_14 rfl (s_iconst dX11_agrees_15 (s_icgt (tgt := 32) dX11_agrees_16 (by decide) (s_iconst dX11_agrees_32 (s_iret dX11_agrees_33 rfl)) (s_aload_n dX11_agrees_19 rfl (s_getf (ci := 11) (j := 1) (C := RX11) (T := TX11) (N := 17) dX11_agrees_20 rfl (by decide) (by decide) qf_X11_19 (s_aload dX11_agrees_23 (s_iload_n dX11_agrees_25 rfl (s_invB (w' := (g, d, ck, sk, xX11_agrees, Q)) (ci := 7) (ck := 0) (sk := 0) (T := TX7) (N := 4) dX11_agrees_26 m_X7_does rfl (by decide) qm_X11_202 qi_X7_does qe_X7_does rfl (s_ifne (tgt := 34) dX11_agrees_29 (by decide) (s_aload_n dX11_agrees_34 rfl (s_iload_n dX11_agrees_35 rfl (s_aload_n dX11_agrees_36 rfl (s_getf (ci := 11) (j := 4) (C := RX11) (T := TX11) (N := 17) dX11_agrees_37 rfl (by decide) (by decide) qf_X11_36 (s_aload dX11_agrees_40 (s_iload_n dX11_agrees_42 rfl (s_invB (w' := (g, d, ck, sk, xX11_agrees, Q)) (ci := 11) (ck := 0) (sk := 0) (T := TX11) (N := 17) dX11_agrees_43 m_X11_lettersThat rfl (by decide) qm_X11_271 qi_X11_lettersThat qe_X11_lettersThat rfl (s_iret dX11_agrees_46 rfl)))))))) (s_iconst dX11_agrees_32 (s_iret dX11_agrees_33 rfl)))))))))))))))))
