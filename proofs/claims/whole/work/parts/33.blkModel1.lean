theorem dX12_opens_0 : decode cX12_opens 0 = .ok (.aload_n 0, 1) := by decide +kernel
theorem dX12_opens_1 : decode cX12_opens 1 = .ok (.getfield 132, 3) := by decide +kernel
theorem dX12_opens_4 : decode cX12_opens 4 = .ok (.bipush 6, 2) := by decide +kernel
theorem dX12_opens_6 : decode cX12_opens 6 = .ok (.if_icmp .ne 7, 3) := by decide +kernel
theorem dX12_opens_9 : decode cX12_opens 9 = .ok (.aload_n 0, 1) := by decide +kernel
theorem dX12_opens_10 : decode cX12_opens 10 = .ok (.invokevirtual 135, 3) := by decide +kernel
theorem dX12_opens_13 : decode cX12_opens 13 = .ok (.aload_n 0, 1) := by decide +kernel
theorem dX12_opens_14 : decode cX12_opens 14 = .ok (.dup, 1) := by decide +kernel
theorem dX12_opens_15 : decode cX12_opens 15 = .ok (.getfield 132, 3) := by decide +kernel
theorem dX12_opens_18 : decode cX12_opens 18 = .ok (.iconst 1, 1) := by decide +kernel
theorem dX12_opens_19 : decode cX12_opens 19 = .ok (.iadd, 1) := by decide +kernel
theorem dX12_opens_20 : decode cX12_opens 20 = .ok (.putfield 132, 3) := by decide +kernel
theorem dX12_opens_23 : decode cX12_opens 23 = .ok (.aload_n 0, 1) := by decide +kernel
theorem dX12_opens_24 : decode cX12_opens 24 = .ok (.dup, 1) := by decide +kernel
theorem dX12_opens_25 : decode cX12_opens 25 = .ok (.getfield 119, 3) := by decide +kernel
theorem dX12_opens_28 : decode cX12_opens 28 = .ok (.iconst 1, 1) := by decide +kernel
theorem dX12_opens_29 : decode cX12_opens 29 = .ok (.iadd, 1) := by decide +kernel
theorem dX12_opens_30 : decode cX12_opens 30 = .ok (.putfield 119, 3) := by decide +kernel
theorem dX12_opens_33 : decode cX12_opens 33 = .ok (.return_, 1) := by decide +kernel
def kX12_opens_0 (g : sk_G) (d ck sk : Nat) (Q : sk_P) : sk_K := o_aload 0 (o_getf 12 5 (o_i (6) (o_icne (sk_B (g, d, ck, sk, xX12_opens, Q) 13) (o_aload 0 (o_invB (g, d, ck, sk, xX12_opens, Q) xX12_bad 0 12 0 0 (sk_B (g, d, ck, sk, xX12_opens, Q) 13))))))
theorem tX12_opens_0 {g : sk_G} {d ck sk : Nat} {Q : sk_P} : sk_S (g, d, ck, sk, xX12_opens, Q) 0 (kX12_opens_0 g d ck sk Q) := s_aload_n dX12_opens_0 rfl (s_getf (ci := 12) (j := 5) (C := RX12) (T := TX12) (N := 49) dX12_opens_1 rfl (by decide) (by decide) qf_X12_132 (s_bipush dX12_opens_4 rfl (s_icne (tgt := 13) dX12_opens_6 (by decide) (sk_id) (s_aload_n dX12_opens_9 rfl (s_invB (w' := (g, d, ck, sk, xX12_opens, Q)) (ci := 12) (ck := 0) (sk := 0) (T := TX12) (N := 49) dX12_opens_10 m_X12_bad rfl (by decide) qm_X12_135 qi_X12_bad qe_X12_bad rfl (sk_id))))))
set_option maxRecDepth 20000 in
def kX12_opens_13 (g : sk_G) (d ck sk : Nat) (Q : sk_P) : sk_K := o_aload 0 (o_dup (o_getf 12 5 (o_i (1) (o_iadd (o_puti 12 5 (o_aload 0 (o_dup (o_getf 12 3 (o_i (1) (o_iadd (o_puti 12 3 (o_ret (g, d, ck, sk, xX12_opens, Q)))))))))))))
set_option maxRecDepth 20000 in
theorem tX12_opens_13 {g : sk_G} {d ck sk : Nat} {Q : sk_P} : sk_S (g, d, ck, sk, xX12_opens, Q) 13 (kX12_opens_13 g d ck sk Q) := s_aload_n dX12_opens_13 rfl (s_dup dX12_opens_14 (s_getf (ci := 12) (j := 5) (C := RX12) (T := TX12) (N := 49) dX12_opens_15 rfl (by decide) (by decide) qf_X12_132 (s_iconst dX12_opens_18 (s_iadd dX12_opens_19 (s_puti (ci := 12) (j := 5) (C := RX12) (T := TX12) (N := 49) dX12_opens_20 rfl (by decide) (by decide) rfl (tyX12_ok 5 (by decide)) qf_X12_132 (s_aload_n dX12_opens_23 rfl (s_dup dX12_opens_24 (s_getf (ci := 12) (j := 3) (C := RX12) (T := TX12) (N := 49) dX12_opens_25 rfl (by decide) (by decide) qf_X12_119 (s_iconst dX12_opens_28 (s_iadd dX12_opens_29 (s_puti (ci := 12) (j := 3) (C := RX12) (T := TX12) (N := 49) dX12_opens_30 rfl (by decide) (by decide) rfl (tyX12_ok 3 (by decide)) qf_X12_119 (s_ret dX12_opens_33 rfl))))))))))))
theorem dX12_put_0 : decode cX12_put 0 = .ok (.aload_n 0, 1) := by decide +kernel
theorem dX12_put_1 : decode cX12_put 1 = .ok (.getfield 13, 3) := by decide +kernel
theorem dX12_put_4 : decode cX12_put 4 = .ok (.sipush 520, 3) := by decide +kernel
theorem dX12_put_7 : decode cX12_put 7 = .ok (.aload_n 0, 1) := by decide +kernel
theorem dX12_put_8 : decode cX12_put 8 = .ok (.getfield 129, 3) := by decide +kernel
theorem dX12_put_11 : decode cX12_put 11 = .ok (.imul, 1) := by decide +kernel
theorem dX12_put_12 : decode cX12_put 12 = .ok (.aload_n 0, 1) := by decide +kernel
theorem dX12_put_13 : decode cX12_put 13 = .ok (.getfield 19, 3) := by decide +kernel
theorem dX12_put_16 : decode cX12_put 16 = .ok (.aload_n 0, 1) := by decide +kernel
theorem dX12_put_17 : decode cX12_put 17 = .ok (.getfield 129, 3) := by decide +kernel
theorem dX12_put_20 : decode cX12_put 20 = .ok (.iaload, 1) := by decide +kernel
theorem dX12_put_21 : decode cX12_put 21 = .ok (.iadd, 1) := by decide +kernel
theorem dX12_put_22 : decode cX12_put 22 = .ok (.iload_n 1, 1) := by decide +kernel
theorem dX12_put_23 : decode cX12_put 23 = .ok (.iastore, 1) := by decide +kernel
theorem dX12_put_24 : decode cX12_put 24 = .ok (.aload_n 0, 1) := by decide +kernel
theorem dX12_put_25 : decode cX12_put 25 = .ok (.getfield 16, 3) := by decide +kernel
theorem dX12_put_28 : decode cX12_put 28 = .ok (.sipush 520, 3) := by decide +kernel
theorem dX12_put_31 : decode cX12_put 31 = .ok (.aload_n 0, 1) := by decide +kernel
theorem dX12_put_32 : decode cX12_put 32 = .ok (.getfield 129, 3) := by decide +kernel
theorem dX12_put_35 : decode cX12_put 35 = .ok (.imul, 1) := by decide +kernel
theorem dX12_put_36 : decode cX12_put 36 = .ok (.aload_n 0, 1) := by decide +kernel
theorem dX12_put_37 : decode cX12_put 37 = .ok (.getfield 19, 3) := by decide +kernel
theorem dX12_put_40 : decode cX12_put 40 = .ok (.aload_n 0, 1) := by decide +kernel
theorem dX12_put_41 : decode cX12_put 41 = .ok (.getfield 129, 3) := by decide +kernel
theorem dX12_put_44 : decode cX12_put 44 = .ok (.iaload, 1) := by decide +kernel
theorem dX12_put_45 : decode cX12_put 45 = .ok (.iadd, 1) := by decide +kernel
theorem dX12_put_46 : decode cX12_put 46 = .ok (.iload_n 2, 1) := by decide +kernel
theorem dX12_put_47 : decode cX12_put 47 = .ok (.iastore, 1) := by decide +kernel
theorem dX12_put_48 : decode cX12_put 48 = .ok (.aload_n 0, 1) := by decide +kernel
theorem dX12_put_49 : decode cX12_put 49 = .ok (.getfield 19, 3) := by decide +kernel
theorem dX12_put_52 : decode cX12_put 52 = .ok (.aload_n 0, 1) := by decide +kernel
theorem dX12_put_53 : decode cX12_put 53 = .ok (.getfield 129, 3) := by decide +kernel
theorem dX12_put_56 : decode cX12_put 56 = .ok (.dup2, 1) := by decide +kernel
theorem dX12_put_57 : decode cX12_put 57 = .ok (.iaload, 1) := by decide +kernel
theorem dX12_put_58 : decode cX12_put 58 = .ok (.iconst 1, 1) := by decide +kernel
theorem dX12_put_59 : decode cX12_put 59 = .ok (.iadd, 1) := by decide +kernel
theorem dX12_put_60 : decode cX12_put 60 = .ok (.iastore, 1) := by decide +kernel
theorem dX12_put_61 : decode cX12_put 61 = .ok (.return_, 1) := by decide +kernel
set_option maxRecDepth 20000 in
def kX12_put_0 (g : sk_G) (d ck sk : Nat) (Q : sk_P) : sk_K := o_aload 0 (o_getf 12 6 (o_i (520) (o_aload 0 (o_getf 12 14 (o_imul (o_aload 0 (o_getf 12 8 (o_aload 0 (o_getf 12 14 (o_iaload (o_iadd (o_iload 1 (o_iastore (o_aload 0 (o_getf 12 7 (o_i (520) (o_aload 0 (o_getf 12 14 (o_imul (o_aload 0 (o_getf 12 8 (o_aload 0 (o_getf 12 14 (o_iaload (o_iadd (o_iload 2 (o_iastore (o_aload 0 (o_getf 12 8 (o_aload 0 (o_getf 12 14 (o_dup2 (o_iaload (o_i (1) (o_iadd (o_iastore (o_ret (g, d, ck, sk, xX12_put, Q))))))))))))))))))))))))))))))))))))))
set_option maxRecDepth 20000 in
theorem tX12_put_0 {g : sk_G} {d ck sk : Nat} {Q : sk_P} : sk_S (g, d, ck, sk, xX12_put, Q) 0 (kX12_put_0 g d ck sk Q) := s_aload_n dX12_put_0 rfl (s_getf (ci := 12) (j := 6) (C := RX12) (T := TX12) (N := 49) dX12_put_1 rfl (by decide) (by decide) qf_X12_13 (s_sipush dX12_put_4 rfl (s_aload_n dX12_put_7 rfl (s_getf (ci := 12) (j := 14) (C := RX12) (T := TX12) (N := 49) dX12_put_8 rfl (by decide) (by decide) qf_X12_129 (s_imul dX12_put_11 (s_aload_n dX12_put_12 rfl (s_getf (ci := 12) (j := 8) (C := RX12) (T := TX12) (N := 49) dX12_put_13 rfl (by decide) (by decide) qf_X12_19 (s_aload_n dX12_put_16 rfl (s_getf (ci := 12) (j := 14) (C := RX12) (T := TX12) (N := 49) dX12_put_17 rfl (by decide) (by decide) qf_X12_129 (s_iaload dX12_put_20 (s_iadd dX12_put_21 (s_iload_n dX12_put_22 rfl (s_iastore dX12_put_23 (s_aload_n dX12_put_24 rfl (s_getf (ci := 12) (j := 7) (C := RX12) (T := TX12) (N := 49) dX12_put_25 rfl (by decide) (by decide) qf_X12_16 (s_sipush dX12_put_28 rfl (s_aload_n dX12_put_31 rfl (s_getf (ci := 12) (j := 14) (C := RX12) (T := TX12) (N := 49) dX12_put_32 rfl (by decide) (by decide) qf_X12_129 (s_imul dX12_put_35 (s_aload_n dX12_put_36 rfl (s_getf (ci := 12) (j := 8) (C := RX12) (T := TX12) (N := 49) dX12_put_37 rfl (by decide) (by decide) qf_X12_19 (s_aload_n dX12_put_40 rfl (s_getf (ci := 12) (j := 14) (C := RX12) (T := TX12) (N := 49) dX12_put_41 rfl (by decide) (by decide) qf_X12_129 (s_iaload dX12_put_44 (s_iadd dX12_put_45 (s_iload_n dX12_put_46 rfl (s_iastore dX12_put_47 (s_aload_n dX12_put_48 rfl (s_getf (ci := 12) (j := 8) (C := RX12) (T := TX12) (N := 49) dX12_put_49 rfl (by decide) (by decide) qf_X12_19 (s_aload_n dX12_put_52 rfl (s_getf (ci := 12) (j := 14) (C := RX12) (T := TX12) (N := 49) dX12_put_53 rfl (by decide) (by decide) qf_X12_129 (s_dup2 dX12_put_56 (s_iaload dX12_put_57 (s_iconst dX12_put_58 (s_iadd dX12_put_59 (s_iastore dX12_put_60 (s_ret dX12_put_61 rfl)))))))))))))))))))))))))))))))))))))
theorem dX12_closes_0 : decode cX12_closes 0 = .ok (.aload_n 0, 1) := by decide +kernel
theorem dX12_closes_1 : decode cX12_closes 1 = .ok (.getfield 126, 3) := by decide +kernel
theorem dX12_closes_4 : decode cX12_closes 4 = .ok (.iconst (-1), 1) := by decide +kernel
theorem dX12_closes_5 : decode cX12_closes 5 = .ok (.if_icmp .ne 15, 3) := by decide +kernel
theorem dX12_closes_8 : decode cX12_closes 8 = .ok (.aload_n 0, 1) := by decide +kernel
theorem dX12_closes_9 : decode cX12_closes 9 = .ok (.invokevirtual 138, 3) := by decide +kernel
theorem dX12_closes_12 : decode cX12_closes 12 = .ok (.iload_n 1, 1) := by decide +kernel
theorem dX12_closes_13 : decode cX12_closes 13 = .ok (.if_icmp .eq 7, 3) := by decide +kernel
theorem dX12_closes_16 : decode cX12_closes 16 = .ok (.aload_n 0, 1) := by decide +kernel
theorem dX12_closes_17 : decode cX12_closes 17 = .ok (.invokevirtual 135, 3) := by decide +kernel
theorem dX12_closes_20 : decode cX12_closes 20 = .ok (.aload_n 0, 1) := by decide +kernel
theorem dX12_closes_21 : decode cX12_closes 21 = .ok (.dup, 1) := by decide +kernel
theorem dX12_closes_22 : decode cX12_closes 22 = .ok (.getfield 119, 3) := by decide +kernel
theorem dX12_closes_25 : decode cX12_closes 25 = .ok (.iconst 1, 1) := by decide +kernel
theorem dX12_closes_26 : decode cX12_closes 26 = .ok (.iadd, 1) := by decide +kernel
theorem dX12_closes_27 : decode cX12_closes 27 = .ok (.putfield 119, 3) := by decide +kernel
theorem dX12_closes_30 : decode cX12_closes 30 = .ok (.aload_n 0, 1) := by decide +kernel
theorem dX12_closes_31 : decode cX12_closes 31 = .ok (.dup, 1) := by decide +kernel
theorem dX12_closes_32 : decode cX12_closes 32 = .ok (.getfield 132, 3) := by decide +kernel
theorem dX12_closes_35 : decode cX12_closes 35 = .ok (.iconst 1, 1) := by decide +kernel
theorem dX12_closes_36 : decode cX12_closes 36 = .ok (.isub, 1) := by decide +kernel
theorem dX12_closes_37 : decode cX12_closes 37 = .ok (.putfield 132, 3) := by decide +kernel
theorem dX12_closes_40 : decode cX12_closes 40 = .ok (.return_, 1) := by decide +kernel
set_option maxRecDepth 20000 in
def kX12_closes_0 (g : sk_G) (d ck sk : Nat) (Q : sk_P) : sk_K := o_aload 0 (o_getf 12 4 (o_i (-1) (o_icne (sk_B (g, d, ck, sk, xX12_closes, Q) 20) (o_aload 0 (o_invB (g, d, ck, sk, xX12_closes, Q) xX12_look 0 12 0 0 (o_iload 1 (o_iceq (sk_B (g, d, ck, sk, xX12_closes, Q) 20) (o_aload 0 (o_invB (g, d, ck, sk, xX12_closes, Q) xX12_bad 0 12 0 0 (sk_B (g, d, ck, sk, xX12_closes, Q) 20))))))))))
set_option maxRecDepth 20000 in
theorem tX12_closes_0 {g : sk_G} {d ck sk : Nat} {Q : sk_P} : sk_S (g, d, ck, sk, xX12_closes, Q) 0 (kX12_closes_0 g d ck sk Q) := s_aload_n dX12_closes_0 rfl (s_getf (ci := 12) (j := 4) (C := RX12) (T := TX12) (N := 49) dX12_closes_1 rfl (by decide) (by decide) qf_X12_126 (s_iconst dX12_closes_4 (s_icne (tgt := 20) dX12_closes_5 (by decide) (sk_id) (s_aload_n dX12_closes_8 rfl (s_invB (w' := (g, d, ck, sk, xX12_closes, Q)) (ci := 12) (ck := 0) (sk := 0) (T := TX12) (N := 49) dX12_closes_9 m_X12_look rfl (by decide) qm_X12_138 qi_X12_look qe_X12_look rfl (s_iload_n dX12_closes_12 rfl (s_iceq (tgt := 20) dX12_closes_13 (by decide) (sk_id) (s_aload_n dX12_closes_16 rfl (s_invB (w' := (g, d, ck, sk, xX12_closes, Q)) (ci := 12) (ck := 0) (sk := 0) (T := TX12) (N := 49) dX12_closes_17 m_X12_bad rfl (by decide) qm_X12_135 qi_X12_bad qe_X12_bad rfl (sk_id))))))))))
set_option maxRecDepth 20000 in
def kX12_closes_20 (g : sk_G) (d ck sk : Nat) (Q : sk_P) : sk_K := o_aload 0 (o_dup (o_getf 12 3 (o_i (1) (o_iadd (o_puti 12 3 (o_aload 0 (o_dup (o_getf 12 5 (o_i (1) (o_isub (o_puti 12 5 (o_ret (g, d, ck, sk, xX12_closes, Q)))))))))))))
set_option maxRecDepth 20000 in
theorem tX12_closes_20 {g : sk_G} {d ck sk : Nat} {Q : sk_P} : sk_S (g, d, ck, sk, xX12_closes, Q) 20 (kX12_closes_20 g d ck sk Q) := s_aload_n dX12_closes_20 rfl (s_dup dX12_closes_21 (s_getf (ci := 12) (j := 3) (C := RX12) (T := TX12) (N := 49) dX12_closes_22 rfl (by decide) (by decide) qf_X12_119 (s_iconst dX12_closes_25 (s_iadd dX12_closes_26 (s_puti (ci := 12) (j := 3) (C := RX12) (T := TX12) (N := 49) dX12_closes_27 rfl (by decide) (by decide) rfl (tyX12_ok 3 (by decide)) qf_X12_119 (s_aload_n dX12_closes_30 rfl (s_dup dX12_closes_31 (s_getf (ci := 12) (j := 5) (C := RX12) (T := TX12) (N := 49) dX12_closes_32 rfl (by decide) (by decide) qf_X12_132 (s_iconst dX12_closes_35 (s_isub dX12_closes_36 (s_puti (ci := 12) (j := 5) (C := RX12) (T := TX12) (N := 49) dX12_closes_37 rfl (by decide) (by decide) rfl (tyX12_ok 5 (by decide)) qf_X12_132 (s_ret dX12_closes_40 rfl))))))))))))
theorem dX12_sum_0 : decode cX12_sum 0 = .ok (.aload_n 0, 1) := by decide +kernel
theorem dX12_sum_1 : decode cX12_sum 1 = .ok (.invokevirtual 169, 3) := by decide +kernel
theorem dX12_sum_4 : decode cX12_sum 4 = .ok (.aload_n 0, 1) := by decide +kernel
theorem dX12_sum_5 : decode cX12_sum 5 = .ok (.getfield 126, 3) := by decide +kernel
theorem dX12_sum_8 : decode cX12_sum 8 = .ok (.iconst (-1), 1) := by decide +kernel
theorem dX12_sum_9 : decode cX12_sum 9 = .ok (.if_icmp .ne 10, 3) := by decide +kernel
theorem dX12_sum_12 : decode cX12_sum 12 = .ok (.aload_n 0, 1) := by decide +kernel
theorem dX12_sum_13 : decode cX12_sum 13 = .ok (.invokevirtual 138, 3) := by decide +kernel
theorem dX12_sum_16 : decode cX12_sum 16 = .ok (.goto 4, 3) := by decide +kernel
theorem dX12_sum_19 : decode cX12_sum 19 = .ok (.iconst (-1), 1) := by decide +kernel
theorem dX12_sum_20 : decode cX12_sum 20 = .ok (.istore_n 1, 1) := by decide +kernel
theorem dX12_sum_21 : decode cX12_sum 21 = .ok (.iload_n 1, 1) := by decide +kernel
theorem dX12_sum_22 : decode cX12_sum 22 = .ok (.bipush 43, 2) := by decide +kernel
theorem dX12_sum_24 : decode cX12_sum 24 = .ok (.if_icmp .eq 9, 3) := by decide +kernel
theorem dX12_sum_27 : decode cX12_sum 27 = .ok (.iload_n 1, 1) := by decide +kernel
theorem dX12_sum_28 : decode cX12_sum 28 = .ok (.bipush 45, 2) := by decide +kernel
theorem dX12_sum_30 : decode cX12_sum 30 = .ok (.if_icmp .ne 53, 3) := by decide +kernel
theorem dX12_sum_33 : decode cX12_sum 33 = .ok (.aload_n 0, 1) := by decide +kernel
theorem dX12_sum_34 : decode cX12_sum 34 = .ok (.dup, 1) := by decide +kernel
theorem dX12_sum_35 : decode cX12_sum 35 = .ok (.getfield 119, 3) := by decide +kernel
theorem dX12_sum_38 : decode cX12_sum 38 = .ok (.iconst 1, 1) := by decide +kernel
theorem dX12_sum_39 : decode cX12_sum 39 = .ok (.iadd, 1) := by decide +kernel
theorem dX12_sum_40 : decode cX12_sum 40 = .ok (.putfield 119, 3) := by decide +kernel
theorem dX12_sum_43 : decode cX12_sum 43 = .ok (.aload_n 0, 1) := by decide +kernel
theorem dX12_sum_44 : decode cX12_sum 44 = .ok (.invokevirtual 169, 3) := by decide +kernel
theorem dX12_sum_47 : decode cX12_sum 47 = .ok (.aload_n 0, 1) := by decide +kernel
theorem dX12_sum_48 : decode cX12_sum 48 = .ok (.iload_n 1, 1) := by decide +kernel
theorem dX12_sum_49 : decode cX12_sum 49 = .ok (.bipush 43, 2) := by decide +kernel
theorem dX12_sum_51 : decode cX12_sum 51 = .ok (.if_icmp .ne 7, 3) := by decide +kernel
theorem dX12_sum_54 : decode cX12_sum 54 = .ok (.iconst 2, 1) := by decide +kernel
theorem dX12_sum_55 : decode cX12_sum 55 = .ok (.goto 4, 3) := by decide +kernel
theorem dX12_sum_58 : decode cX12_sum 58 = .ok (.iconst 3, 1) := by decide +kernel
theorem dX12_sum_59 : decode cX12_sum 59 = .ok (.iconst 0, 1) := by decide +kernel
theorem dX12_sum_60 : decode cX12_sum 60 = .ok (.invokevirtual 148, 3) := by decide +kernel
theorem dX12_sum_63 : decode cX12_sum 63 = .ok (.aload_n 0, 1) := by decide +kernel
theorem dX12_sum_64 : decode cX12_sum 64 = .ok (.getfield 126, 3) := by decide +kernel
theorem dX12_sum_67 : decode cX12_sum 67 = .ok (.iconst (-1), 1) := by decide +kernel
theorem dX12_sum_68 : decode cX12_sum 68 = .ok (.if_icmp .ne 10, 3) := by decide +kernel
theorem dX12_sum_71 : decode cX12_sum 71 = .ok (.aload_n 0, 1) := by decide +kernel
theorem dX12_sum_72 : decode cX12_sum 72 = .ok (.invokevirtual 138, 3) := by decide +kernel
theorem dX12_sum_75 : decode cX12_sum 75 = .ok (.goto 4, 3) := by decide +kernel
theorem dX12_sum_78 : decode cX12_sum 78 = .ok (.iconst (-1), 1) := by decide +kernel
theorem dX12_sum_79 : decode cX12_sum 79 = .ok (.istore_n 1, 1) := by decide +kernel
theorem dX12_sum_80 : decode cX12_sum 80 = .ok (.goto (-59), 3) := by decide +kernel
theorem dX12_sum_83 : decode cX12_sum 83 = .ok (.return_, 1) := by decide +kernel
set_option maxRecDepth 20000 in
def kX12_sum_0 (g : sk_G) (d ck sk : Nat) (Q : sk_P) : sk_K := o_aload 0 (o_invB (g, d, ck, sk, xX12_sum, Q) xX12_term 0 12 0 0 (o_aload 0 (o_getf 12 4 (o_i (-1) (o_icne (o_i (-1) (o_istore 1 (sk_B (g, d, ck, sk, xX12_sum, Q) 21))) (o_aload 0 (o_invB (g, d, ck, sk, xX12_sum, Q) xX12_look 0 12 0 0 (o_istore 1 (sk_B (g, d, ck, sk, xX12_sum, Q) 21)))))))))
set_option maxRecDepth 20000 in
theorem tX12_sum_0 {g : sk_G} {d ck sk : Nat} {Q : sk_P} : sk_S (g, d, ck, sk, xX12_sum, Q) 0 (kX12_sum_0 g d ck sk Q) := s_aload_n dX12_sum_0 rfl (s_invB (w' := (g, d, ck, sk, xX12_sum, Q)) (ci := 12) (ck := 0) (sk := 0) (T := TX12) (N := 49) dX12_sum_1 m_X12_term rfl (by decide) qm_X12_169 qi_X12_term qe_X12_term rfl (s_aload_n dX12_sum_4 rfl (s_getf (ci := 12) (j := 4) (C := RX12) (T := TX12) (N := 49) dX12_sum_5 rfl (by decide) (by decide) qf_X12_126 (s_iconst dX12_sum_8 (s_icne (tgt := 19) dX12_sum_9 (by decide) (s_iconst dX12_sum_19 (s_istore_n dX12_sum_20 rfl (by decide : 1 < 2) (sk_id))) (s_aload_n dX12_sum_12 rfl (s_invB (w' := (g, d, ck, sk, xX12_sum, Q)) (ci := 12) (ck := 0) (sk := 0) (T := TX12) (N := 49) dX12_sum_13 m_X12_look rfl (by decide) qm_X12_138 qi_X12_look qe_X12_look rfl (s_goto (tgt := 20) dX12_sum_16 (by decide) (s_istore_n dX12_sum_20 rfl (by decide : 1 < 2) (sk_id))))))))))
def kX12_sum_21 (g : sk_G) (d ck sk : Nat) (Q : sk_P) : sk_K := o_iload 1 (o_i (43) (o_iceq (sk_B (g, d, ck, sk, xX12_sum, Q) 33) (o_iload 1 (o_i (45) (o_icne (o_ret (g, d, ck, sk, xX12_sum, Q)) (sk_B (g, d, ck, sk, xX12_sum, Q) 33))))))
theorem tX12_sum_21 {g : sk_G} {d ck sk : Nat} {Q : sk_P} : sk_S (g, d, ck, sk, xX12_sum, Q) 21 (kX12_sum_21 g d ck sk Q) := s_iload_n dX12_sum_21 rfl (s_bipush dX12_sum_22 rfl (s_iceq (tgt := 33) dX12_sum_24 (by decide) (sk_id) (s_iload_n dX12_sum_27 rfl (s_bipush dX12_sum_28 rfl (s_icne (tgt := 83) dX12_sum_30 (by decide) (s_ret dX12_sum_83 rfl) (sk_id))))))
set_option maxRecDepth 20000 in
def kX12_sum_33 (g : sk_G) (d ck sk : Nat) (Q : sk_P) : sk_K := o_aload 0 (o_dup (o_getf 12 3 (o_i (1) (o_iadd (o_puti 12 3 (o_aload 0 (o_invB (g, d, ck, sk, xX12_sum, Q) xX12_term 0 12 0 0 (o_aload 0 (o_iload 1 (o_i (43) (o_icne (o_i (3) (sk_B (g, d, ck, sk, xX12_sum, Q) 59)) (o_i (2) (sk_B (g, d, ck, sk, xX12_sum, Q) 59)))))))))))))
set_option maxRecDepth 20000 in
theorem tX12_sum_33 {g : sk_G} {d ck sk : Nat} {Q : sk_P} : sk_S (g, d, ck, sk, xX12_sum, Q) 33 (kX12_sum_33 g d ck sk Q) := s_aload_n dX12_sum_33 rfl (s_dup dX12_sum_34 (s_getf (ci := 12) (j := 3) (C := RX12) (T := TX12) (N := 49) dX12_sum_35 rfl (by decide) (by decide) qf_X12_119 (s_iconst dX12_sum_38 (s_iadd dX12_sum_39 (s_puti (ci := 12) (j := 3) (C := RX12) (T := TX12) (N := 49) dX12_sum_40 rfl (by decide) (by decide) rfl (tyX12_ok 3 (by decide)) qf_X12_119 (s_aload_n dX12_sum_43 rfl (s_invB (w' := (g, d, ck, sk, xX12_sum, Q)) (ci := 12) (ck := 0) (sk := 0) (T := TX12) (N := 49) dX12_sum_44 m_X12_term rfl (by decide) qm_X12_169 qi_X12_term qe_X12_term rfl (s_aload_n dX12_sum_47 rfl (s_iload_n dX12_sum_48 rfl (s_bipush dX12_sum_49 rfl (s_icne (tgt := 58) dX12_sum_51 (by decide) (s_iconst dX12_sum_58 (sk_id)) (s_iconst dX12_sum_54 (s_goto (tgt := 59) dX12_sum_55 (by decide) (sk_id))))))))))))))
set_option maxRecDepth 20000 in
def kX12_sum_59 (g : sk_G) (d ck sk : Nat) (Q : sk_P) : sk_K := o_i (0) (o_invB (g, d, ck, sk, xX12_sum, Q) xX12_put 2 12 0 0 (o_aload 0 (o_getf 12 4 (o_i (-1) (o_icne (o_i (-1) (o_istore 1 (sk_B (g, d, ck, sk, xX12_sum, Q) 21))) (o_aload 0 (o_invB (g, d, ck, sk, xX12_sum, Q) xX12_look 0 12 0 0 (o_istore 1 (sk_B (g, d, ck, sk, xX12_sum, Q) 21)))))))))
set_option maxRecDepth 20000 in
theorem tX12_sum_59 {g : sk_G} {d ck sk : Nat} {Q : sk_P} : sk_S (g, d, ck, sk, xX12_sum, Q) 59 (kX12_sum_59 g d ck sk Q) := s_iconst dX12_sum_59 (s_invB (w' := (g, d, ck, sk, xX12_sum, Q)) (ci := 12) (ck := 0) (sk := 0) (T := TX12) (N := 49) dX12_sum_60 m_X12_put rfl (by decide) qm_X12_148 qi_X12_put qe_X12_put rfl (s_aload_n dX12_sum_63 rfl (s_getf (ci := 12) (j := 4) (C := RX12) (T := TX12) (N := 49) dX12_sum_64 rfl (by decide) (by decide) qf_X12_126 (s_iconst dX12_sum_67 (s_icne (tgt := 78) dX12_sum_68 (by decide) (s_iconst dX12_sum_78 (s_istore_n dX12_sum_79 rfl (by decide : 1 < 2) (s_goto (tgt := 21) dX12_sum_80 (by decide) (sk_id)))) (s_aload_n dX12_sum_71 rfl (s_invB (w' := (g, d, ck, sk, xX12_sum, Q)) (ci := 12) (ck := 0) (sk := 0) (T := TX12) (N := 49) dX12_sum_72 m_X12_look rfl (by decide) qm_X12_138 qi_X12_look qe_X12_look rfl (s_goto (tgt := 79) dX12_sum_75 (by decide) (s_istore_n dX12_sum_79 rfl (by decide : 1 < 2) (s_goto (tgt := 21) dX12_sum_80 (by decide) (sk_id)))))))))))
theorem dX12_term_0 : decode cX12_term 0 = .ok (.aload_n 0, 1) := by decide +kernel
theorem dX12_term_1 : decode cX12_term 1 = .ok (.invokevirtual 166, 3) := by decide +kernel
theorem dX12_term_4 : decode cX12_term 4 = .ok (.aload_n 0, 1) := by decide +kernel
theorem dX12_term_5 : decode cX12_term 5 = .ok (.getfield 126, 3) := by decide +kernel
theorem dX12_term_8 : decode cX12_term 8 = .ok (.iconst (-1), 1) := by decide +kernel
theorem dX12_term_9 : decode cX12_term 9 = .ok (.if_icmp .ne 10, 3) := by decide +kernel
theorem dX12_term_12 : decode cX12_term 12 = .ok (.aload_n 0, 1) := by decide +kernel
theorem dX12_term_13 : decode cX12_term 13 = .ok (.invokevirtual 138, 3) := by decide +kernel
theorem dX12_term_16 : decode cX12_term 16 = .ok (.goto 4, 3) := by decide +kernel
theorem dX12_term_19 : decode cX12_term 19 = .ok (.iconst (-1), 1) := by decide +kernel
theorem dX12_term_20 : decode cX12_term 20 = .ok (.istore_n 1, 1) := by decide +kernel
theorem dX12_term_21 : decode cX12_term 21 = .ok (.iload_n 1, 1) := by decide +kernel
theorem dX12_term_22 : decode cX12_term 22 = .ok (.bipush 42, 2) := by decide +kernel
theorem dX12_term_24 : decode cX12_term 24 = .ok (.if_icmp .eq 9, 3) := by decide +kernel
theorem dX12_term_27 : decode cX12_term 27 = .ok (.iload_n 1, 1) := by decide +kernel
theorem dX12_term_28 : decode cX12_term 28 = .ok (.bipush 47, 2) := by decide +kernel
theorem dX12_term_30 : decode cX12_term 30 = .ok (.if_icmp .ne 53, 3) := by decide +kernel
theorem dX12_term_33 : decode cX12_term 33 = .ok (.aload_n 0, 1) := by decide +kernel
theorem dX12_term_34 : decode cX12_term 34 = .ok (.dup, 1) := by decide +kernel
theorem dX12_term_35 : decode cX12_term 35 = .ok (.getfield 119, 3) := by decide +kernel
theorem dX12_term_38 : decode cX12_term 38 = .ok (.iconst 1, 1) := by decide +kernel
theorem dX12_term_39 : decode cX12_term 39 = .ok (.iadd, 1) := by decide +kernel
theorem dX12_term_40 : decode cX12_term 40 = .ok (.putfield 119, 3) := by decide +kernel
theorem dX12_term_43 : decode cX12_term 43 = .ok (.aload_n 0, 1) := by decide +kernel
theorem dX12_term_44 : decode cX12_term 44 = .ok (.invokevirtual 166, 3) := by decide +kernel
theorem dX12_term_47 : decode cX12_term 47 = .ok (.aload_n 0, 1) := by decide +kernel
theorem dX12_term_48 : decode cX12_term 48 = .ok (.iload_n 1, 1) := by decide +kernel
theorem dX12_term_49 : decode cX12_term 49 = .ok (.bipush 42, 2) := by decide +kernel
theorem dX12_term_51 : decode cX12_term 51 = .ok (.if_icmp .ne 7, 3) := by decide +kernel
theorem dX12_term_54 : decode cX12_term 54 = .ok (.iconst 4, 1) := by decide +kernel
theorem dX12_term_55 : decode cX12_term 55 = .ok (.goto 4, 3) := by decide +kernel
theorem dX12_term_58 : decode cX12_term 58 = .ok (.iconst 5, 1) := by decide +kernel
theorem dX12_term_59 : decode cX12_term 59 = .ok (.iconst 0, 1) := by decide +kernel
theorem dX12_term_60 : decode cX12_term 60 = .ok (.invokevirtual 148, 3) := by decide +kernel
theorem dX12_term_63 : decode cX12_term 63 = .ok (.aload_n 0, 1) := by decide +kernel
theorem dX12_term_64 : decode cX12_term 64 = .ok (.getfield 126, 3) := by decide +kernel
theorem dX12_term_67 : decode cX12_term 67 = .ok (.iconst (-1), 1) := by decide +kernel
theorem dX12_term_68 : decode cX12_term 68 = .ok (.if_icmp .ne 10, 3) := by decide +kernel
theorem dX12_term_71 : decode cX12_term 71 = .ok (.aload_n 0, 1) := by decide +kernel
theorem dX12_term_72 : decode cX12_term 72 = .ok (.invokevirtual 138, 3) := by decide +kernel
theorem dX12_term_75 : decode cX12_term 75 = .ok (.goto 4, 3) := by decide +kernel
theorem dX12_term_78 : decode cX12_term 78 = .ok (.iconst (-1), 1) := by decide +kernel
theorem dX12_term_79 : decode cX12_term 79 = .ok (.istore_n 1, 1) := by decide +kernel
theorem dX12_term_80 : decode cX12_term 80 = .ok (.goto (-59), 3) := by decide +kernel
theorem dX12_term_83 : decode cX12_term 83 = .ok (.return_, 1) := by decide +kernel
set_option maxRecDepth 20000 in
def kX12_term_0 (g : sk_G) (d ck sk : Nat) (Q : sk_P) : sk_K := o_aload 0 (o_invB (g, d, ck, sk, xX12_term, Q) xX12_atom 0 12 0 0 (o_aload 0 (o_getf 12 4 (o_i (-1) (o_icne (o_i (-1) (o_istore 1 (sk_B (g, d, ck, sk, xX12_term, Q) 21))) (o_aload 0 (o_invB (g, d, ck, sk, xX12_term, Q) xX12_look 0 12 0 0 (o_istore 1 (sk_B (g, d, ck, sk, xX12_term, Q) 21)))))))))
set_option maxRecDepth 20000 in
theorem tX12_term_0 {g : sk_G} {d ck sk : Nat} {Q : sk_P} : sk_S (g, d, ck, sk, xX12_term, Q) 0 (kX12_term_0 g d ck sk Q) := s_aload_n dX12_term_0 rfl (s_invB (w' := (g, d, ck, sk, xX12_term, Q)) (ci := 12) (ck := 0) (sk := 0) (T := TX12) (N := 49) dX12_term_1 m_X12_atom rfl (by decide) qm_X12_166 qi_X12_atom qe_X12_atom rfl (s_aload_n dX12_term_4 rfl (s_getf (ci := 12) (j := 4) (C := RX12) (T := TX12) (N := 49) dX12_term_5 rfl (by decide) (by decide) qf_X12_126 (s_iconst dX12_term_8 (s_icne (tgt := 19) dX12_term_9 (by decide) (s_iconst dX12_term_19 (s_istore_n dX12_term_20 rfl (by decide : 1 < 2) (sk_id))) (s_aload_n dX12_term_12 rfl (s_invB (w' := (g, d, ck, sk, xX12_term, Q)) (ci := 12) (ck := 0) (sk := 0) (T := TX12) (N := 49) dX12_term_13 m_X12_look rfl (by decide) qm_X12_138 qi_X12_look qe_X12_look rfl (s_goto (tgt := 20) dX12_term_16 (by decide) (s_istore_n dX12_term_20 rfl (by decide : 1 < 2) (sk_id))))))))))
def kX12_term_21 (g : sk_G) (d ck sk : Nat) (Q : sk_P) : sk_K := o_iload 1 (o_i (42) (o_iceq (sk_B (g, d, ck, sk, xX12_term, Q) 33) (o_iload 1 (o_i (47) (o_icne (o_ret (g, d, ck, sk, xX12_term, Q)) (sk_B (g, d, ck, sk, xX12_term, Q) 33))))))
theorem tX12_term_21 {g : sk_G} {d ck sk : Nat} {Q : sk_P} : sk_S (g, d, ck, sk, xX12_term, Q) 21 (kX12_term_21 g d ck sk Q) := s_iload_n dX12_term_21 rfl (s_bipush dX12_term_22 rfl (s_iceq (tgt := 33) dX12_term_24 (by decide) (sk_id) (s_iload_n dX12_term_27 rfl (s_bipush dX12_term_28 rfl (s_icne (tgt := 83) dX12_term_30 (by decide) (s_ret dX12_term_83 rfl) (sk_id))))))
set_option maxRecDepth 20000 in
def kX12_term_33 (g : sk_G) (d ck sk : Nat) (Q : sk_P) : sk_K := o_aload 0 (o_dup (o_getf 12 3 (o_i (1) (o_iadd (o_puti 12 3 (o_aload 0 (o_invB (g, d, ck, sk, xX12_term, Q) xX12_atom 0 12 0 0 (o_aload 0 (o_iload 1 (o_i (42) (o_icne (o_i (5) (sk_B (g, d, ck, sk, xX12_term, Q) 59)) (o_i (4) (sk_B (g, d, ck, sk, xX12_term, Q) 59)))))))))))))
set_option maxRecDepth 20000 in
theorem tX12_term_33 {g : sk_G} {d ck sk : Nat} {Q : sk_P} : sk_S (g, d, ck, sk, xX12_term, Q) 33 (kX12_term_33 g d ck sk Q) := s_aload_n dX12_term_33 rfl (s_dup dX12_term_34 (s_getf (ci := 12) (j := 3) (C := RX12) (T := TX12) (N := 49) dX12_term_35 rfl (by decide) (by decide) qf_X12_119 (s_iconst dX12_term_38 (s_iadd dX12_term_39 (s_puti (ci := 12) (j := 3) (C := RX12) (T := TX12) (N := 49) dX12_term_40 rfl (by decide) (by decide) rfl (tyX12_ok 3 (by decide)) qf_X12_119 (s_aload_n dX12_term_43 rfl (s_invB (w' := (g, d, ck, sk, xX12_term, Q)) (ci := 12) (ck := 0) (sk := 0) (T := TX12) (N := 49) dX12_term_44 m_X12_atom rfl (by decide) qm_X12_166 qi_X12_atom qe_X12_atom rfl (s_aload_n dX12_term_47 rfl (s_iload_n dX12_term_48 rfl (s_bipush dX12_term_49 rfl (s_icne (tgt := 58) dX12_term_51 (by decide) (s_iconst dX12_term_58 (sk_id)) (s_iconst dX12_term_54 (s_goto (tgt := 59) dX12_term_55 (by decide) (sk_id))))))))))))))
set_option maxRecDepth 20000 in
def kX12_term_59 (g : sk_G) (d ck sk : Nat) (Q : sk_P) : sk_K := o_i (0) (o_invB (g, d, ck, sk, xX12_term, Q) xX12_put 2 12 0 0 (o_aload 0 (o_getf 12 4 (o_i (-1) (o_icne (o_i (-1) (o_istore 1 (sk_B (g, d, ck, sk, xX12_term, Q) 21))) (o_aload 0 (o_invB (g, d, ck, sk, xX12_term, Q) xX12_look 0 12 0 0 (o_istore 1 (sk_B (g, d, ck, sk, xX12_term, Q) 21)))))))))
set_option maxRecDepth 20000 in
theorem tX12_term_59 {g : sk_G} {d ck sk : Nat} {Q : sk_P} : sk_S (g, d, ck, sk, xX12_term, Q) 59 (kX12_term_59 g d ck sk Q) := s_iconst dX12_term_59 (s_invB (w' := (g, d, ck, sk, xX12_term, Q)) (ci := 12) (ck := 0) (sk := 0) (T := TX12) (N := 49) dX12_term_60 m_X12_put rfl (by decide) qm_X12_148 qi_X12_put qe_X12_put rfl (s_aload_n dX12_term_63 rfl (s_getf (ci := 12) (j := 4) (C := RX12) (T := TX12) (N := 49) dX12_term_64 rfl (by decide) (by decide) qf_X12_126 (s_iconst dX12_term_67 (s_icne (tgt := 78) dX12_term_68 (by decide) (s_iconst dX12_term_78 (s_istore_n dX12_term_79 rfl (by decide : 1 < 2) (s_goto (tgt := 21) dX12_term_80 (by decide) (sk_id)))) (s_aload_n dX12_term_71 rfl (s_invB (w' := (g, d, ck, sk, xX12_term, Q)) (ci := 12) (ck := 0) (sk := 0) (T := TX12) (N := 49) dX12_term_72 m_X12_look rfl (by decide) qm_X12_138 qi_X12_look qe_X12_look rfl (s_goto (tgt := 79) dX12_term_75 (by decide) (s_istore_n dX12_term_79 rfl (by decide : 1 < 2) (s_goto (tgt := 21) dX12_term_80 (by decide) (sk_id)))))))))))
theorem dX12_atom_0 : decode cX12_atom 0 = .ok (.aload_n 0, 1) := by decide +kernel
theorem dX12_atom_1 : decode cX12_atom 1 = .ok (.invokevirtual 138, 3) := by decide +kernel
theorem dX12_atom_4 : decode cX12_atom 4 = .ok (.istore_n 1, 1) := by decide +kernel
theorem dX12_atom_5 : decode cX12_atom 5 = .ok (.iload_n 1, 1) := by decide +kernel
theorem dX12_atom_6 : decode cX12_atom 6 = .ok (.invokestatic 141, 3) := by decide +kernel
theorem dX12_atom_9 : decode cX12_atom 9 = .ok (.ifCond .eq 15, 3) := by decide +kernel
theorem dX12_atom_12 : decode cX12_atom 12 = .ok (.aload_n 0, 1) := by decide +kernel
theorem dX12_atom_13 : decode cX12_atom 13 = .ok (.iconst 0, 1) := by decide +kernel
theorem dX12_atom_14 : decode cX12_atom 14 = .ok (.aload_n 0, 1) := by decide +kernel
theorem dX12_atom_15 : decode cX12_atom 15 = .ok (.invokevirtual 145, 3) := by decide +kernel
theorem dX12_atom_18 : decode cX12_atom 18 = .ok (.invokevirtual 148, 3) := by decide +kernel
theorem dX12_atom_21 : decode cX12_atom 21 = .ok (.goto 68, 3) := by decide +kernel
theorem dX12_atom_24 : decode cX12_atom 24 = .ok (.iload_n 1, 1) := by decide +kernel
theorem dX12_atom_25 : decode cX12_atom 25 = .ok (.invokestatic 152, 3) := by decide +kernel
theorem dX12_atom_28 : decode cX12_atom 28 = .ok (.iconst (-1), 1) := by decide +kernel
theorem dX12_atom_29 : decode cX12_atom 29 = .ok (.if_icmp .eq 25, 3) := by decide +kernel
theorem dX12_atom_32 : decode cX12_atom 32 = .ok (.aload_n 0, 1) := by decide +kernel
theorem dX12_atom_33 : decode cX12_atom 33 = .ok (.dup, 1) := by decide +kernel
theorem dX12_atom_34 : decode cX12_atom 34 = .ok (.getfield 119, 3) := by decide +kernel
theorem dX12_atom_37 : decode cX12_atom 37 = .ok (.iconst 1, 1) := by decide +kernel
theorem dX12_atom_38 : decode cX12_atom 38 = .ok (.iadd, 1) := by decide +kernel
theorem dX12_atom_39 : decode cX12_atom 39 = .ok (.putfield 119, 3) := by decide +kernel
theorem dX12_atom_42 : decode cX12_atom 42 = .ok (.aload_n 0, 1) := by decide +kernel
theorem dX12_atom_43 : decode cX12_atom 43 = .ok (.iconst 1, 1) := by decide +kernel
theorem dX12_atom_44 : decode cX12_atom 44 = .ok (.iload_n 1, 1) := by decide +kernel
theorem dX12_atom_45 : decode cX12_atom 45 = .ok (.invokestatic 152, 3) := by decide +kernel
theorem dX12_atom_48 : decode cX12_atom 48 = .ok (.invokevirtual 148, 3) := by decide +kernel
theorem dX12_atom_51 : decode cX12_atom 51 = .ok (.goto 38, 3) := by decide +kernel
theorem dX12_atom_54 : decode cX12_atom 54 = .ok (.iload_n 1, 1) := by decide +kernel
theorem dX12_atom_55 : decode cX12_atom 55 = .ok (.bipush 91, 2) := by decide +kernel
theorem dX12_atom_57 : decode cX12_atom 57 = .ok (.if_icmp .ne 28, 3) := by decide +kernel
theorem dX12_atom_60 : decode cX12_atom 60 = .ok (.aload_n 0, 1) := by decide +kernel
theorem dX12_atom_61 : decode cX12_atom 61 = .ok (.invokevirtual 156, 3) := by decide +kernel
theorem dX12_atom_64 : decode cX12_atom 64 = .ok (.aload_n 0, 1) := by decide +kernel
theorem dX12_atom_65 : decode cX12_atom 65 = .ok (.getfield 126, 3) := by decide +kernel
theorem dX12_atom_68 : decode cX12_atom 68 = .ok (.iconst (-1), 1) := by decide +kernel
theorem dX12_atom_69 : decode cX12_atom 69 = .ok (.if_icmp .ne 20, 3) := by decide +kernel
theorem dX12_atom_72 : decode cX12_atom 72 = .ok (.aload_n 0, 1) := by decide +kernel
theorem dX12_atom_73 : decode cX12_atom 73 = .ok (.invokevirtual 159, 3) := by decide +kernel
theorem dX12_atom_76 : decode cX12_atom 76 = .ok (.aload_n 0, 1) := by decide +kernel
theorem dX12_atom_77 : decode cX12_atom 77 = .ok (.bipush 93, 2) := by decide +kernel
theorem dX12_atom_79 : decode cX12_atom 79 = .ok (.invokevirtual 162, 3) := by decide +kernel
theorem dX12_atom_82 : decode cX12_atom 82 = .ok (.goto 7, 3) := by decide +kernel
theorem dX12_atom_85 : decode cX12_atom 85 = .ok (.aload_n 0, 1) := by decide +kernel
theorem dX12_atom_86 : decode cX12_atom 86 = .ok (.invokevirtual 135, 3) := by decide +kernel
theorem dX12_atom_89 : decode cX12_atom 89 = .ok (.return_, 1) := by decide +kernel
set_option maxRecDepth 20000 in
def kX12_atom_0 (g : sk_G) (d ck sk : Nat) (Q : sk_P) : sk_K := o_aload 0 (o_invB (g, d, ck, sk, xX12_atom, Q) xX12_look 0 12 0 0 (o_istore 1 (o_iload 1 (o_stcB (g, d, ck, sk, xX12_atom, Q) xX12_isDigit 1 0 0 (o_ifeq (o_iload 1 (o_stcB (g, d, ck, sk, xX12_atom, Q) xX12_letterOf 1 0 0 (o_i (-1) (o_iceq (o_iload 1 (o_i (91) (o_icne (o_aload 0 (o_invB (g, d, ck, sk, xX12_atom, Q) xX12_bad 0 12 0 0 (o_ret (g, d, ck, sk, xX12_atom, Q)))) (o_aload 0 (o_invB (g, d, ck, sk, xX12_atom, Q) xX12_opens 0 12 0 0 (o_aload 0 (o_getf 12 4 (o_i (-1) (o_icne (o_ret (g, d, ck, sk, xX12_atom, Q)) (o_aload 0 (o_invB (g, d, ck, sk, xX12_atom, Q) xX12_sum 0 12 0 0 (o_aload 0 (o_i (93) (o_invB (g, d, ck, sk, xX12_atom, Q) xX12_closes 1 12 0 0 (o_ret (g, d, ck, sk, xX12_atom, Q)))))))))))))))) (o_aload 0 (o_dup (o_getf 12 3 (o_i (1) (o_iadd (o_puti 12 3 (o_aload 0 (o_i (1) (o_iload 1 (o_stcB (g, d, ck, sk, xX12_atom, Q) xX12_letterOf 1 0 0 (o_invB (g, d, ck, sk, xX12_atom, Q) xX12_put 2 12 0 0 (o_ret (g, d, ck, sk, xX12_atom, Q))))))))))))))))) (o_aload 0 (o_i (0) (o_aload 0 (o_invB (g, d, ck, sk, xX12_atom, Q) xX12_plainNumber 0 12 0 0 (o_invB (g, d, ck, sk, xX12_atom, Q) xX12_put 2 12 0 0 (o_ret (g, d, ck, sk, xX12_atom, Q))))))))))))
set_option maxRecDepth 20000 in
theorem tX12_atom_0 {g : sk_G} {d ck sk : Nat} {Q : sk_P} : sk_S (g, d, ck, sk, xX12_atom, Q) 0 (kX12_atom_0 g d ck sk Q) := s_aload_n dX12_atom_0 rfl (s_invB (w' := (g, d, ck, sk, xX12_atom, Q)) (ci := 12) (ck := 0) (sk := 0) (T := TX12) (N := 49) dX12_atom_1 m_X12_look rfl (by decide) qm_X12_138 qi_X12_look qe_X12_look rfl (s_istore_n dX12_atom_4 rfl (by decide : 1 < 2) (s_iload_n dX12_atom_5 rfl (s_stcB (w' := (g, d, ck, sk, xX12_atom, Q)) (ck := 0) (sk := 0) dX12_atom_6 m_X12_isDigit qm_X12_141 qs_X12_isDigit rfl (s_ifeq (tgt := 24) dX12_atom_9 (by decide) (s_iload_n dX12_atom_24 rfl (s_stcB (w' := (g, d, ck, sk, xX12_atom, Q)) (ck := 0) (sk := 0) dX12_atom_25 m_X12_letterOf qm_X12_152 qs_X12_letterOf rfl (s_iconst dX12_atom_28 (s_iceq (tgt := 54) dX12_atom_29 (by decide) (s_iload_n dX12_atom_54 rfl (s_bipush dX12_atom_55 rfl (s_icne (tgt := 85) dX12_atom_57 (by decide) (s_aload_n dX12_atom_85 rfl (s_invB (w' := (g, d, ck, sk, xX12_atom, Q)) (ci := 12) (ck := 0) (sk := 0) (T := TX12) (N := 49) dX12_atom_86 m_X12_bad rfl (by decide) qm_X12_135 qi_X12_bad qe_X12_bad rfl (s_ret dX12_atom_89 rfl))) (s_aload_n dX12_atom_60 rfl (s_invB (w' := (g, d, ck, sk, xX12_atom, Q)) (ci := 12) (ck := 0) (sk := 0) (T := TX12) (N := 49) dX12_atom_61 m_X12_opens rfl (by decide) qm_X12_156 qi_X12_opens qe_X12_opens rfl (s_aload_n dX12_atom_64 rfl (s_getf (ci := 12) (j := 4) (C := RX12) (T := TX12) (N := 49) dX12_atom_65 rfl (by decide) (by decide) qf_X12_126 (s_iconst dX12_atom_68 (s_icne (tgt := 89) dX12_atom_69 (by decide) (s_ret dX12_atom_89 rfl) (s_aload_n dX12_atom_72 rfl (s_invB (w' := (g, d, ck, sk, xX12_atom, Q)) (ci := 12) (ck := 0) (sk := 0) (T := TX12) (N := 49) dX12_atom_73 m_X12_sum rfl (by decide) qm_X12_159 qi_X12_sum qe_X12_sum rfl (s_aload_n dX12_atom_76 rfl (s_bipush dX12_atom_77 rfl (s_invB (w' := (g, d, ck, sk, xX12_atom, Q)) (ci := 12) (ck := 0) (sk := 0) (T := TX12) (N := 49) dX12_atom_79 m_X12_closes rfl (by decide) qm_X12_162 qi_X12_closes qe_X12_closes rfl (s_goto (tgt := 89) dX12_atom_82 (by decide) (s_ret dX12_atom_89 rfl)))))))))))))))) (s_aload_n dX12_atom_32 rfl (s_dup dX12_atom_33 (s_getf (ci := 12) (j := 3) (C := RX12) (T := TX12) (N := 49) dX12_atom_34 rfl (by decide) (by decide) qf_X12_119 (s_iconst dX12_atom_37 (s_iadd dX12_atom_38 (s_puti (ci := 12) (j := 3) (C := RX12) (T := TX12) (N := 49) dX12_atom_39 rfl (by decide) (by decide) rfl (tyX12_ok 3 (by decide)) qf_X12_119 (s_aload_n dX12_atom_42 rfl (s_iconst dX12_atom_43 (s_iload_n dX12_atom_44 rfl (s_stcB (w' := (g, d, ck, sk, xX12_atom, Q)) (ck := 0) (sk := 0) dX12_atom_45 m_X12_letterOf qm_X12_152 qs_X12_letterOf rfl (s_invB (w' := (g, d, ck, sk, xX12_atom, Q)) (ci := 12) (ck := 0) (sk := 0) (T := TX12) (N := 49) dX12_atom_48 m_X12_put rfl (by decide) qm_X12_148 qi_X12_put qe_X12_put rfl (s_goto (tgt := 89) dX12_atom_51 (by decide) (s_ret dX12_atom_89 rfl))))))))))))))))) (s_aload_n dX12_atom_12 rfl (s_iconst dX12_atom_13 (s_aload_n dX12_atom_14 rfl (s_invB (w' := (g, d, ck, sk, xX12_atom, Q)) (ci := 12) (ck := 0) (sk := 0) (T := TX12) (N := 49) dX12_atom_15 m_X12_plainNumber rfl (by decide) qm_X12_145 qi_X12_plainNumber qe_X12_plainNumber rfl (s_invB (w' := (g, d, ck, sk, xX12_atom, Q)) (ci := 12) (ck := 0) (sk := 0) (T := TX12) (N := 49) dX12_atom_18 m_X12_put rfl (by decide) qm_X12_148 qi_X12_put qe_X12_put rfl (s_goto (tgt := 89) dX12_atom_21 (by decide) (s_ret dX12_atom_89 rfl))))))))))))
theorem dX12_plainNumber_0 : decode cX12_plainNumber 0 = .ok (.iconst 0, 1) := by decide +kernel
theorem dX12_plainNumber_1 : decode cX12_plainNumber 1 = .ok (.istore_n 1, 1) := by decide +kernel
theorem dX12_plainNumber_2 : decode cX12_plainNumber 2 = .ok (.iconst 0, 1) := by decide +kernel
theorem dX12_plainNumber_3 : decode cX12_plainNumber 3 = .ok (.istore_n 2, 1) := by decide +kernel
theorem dX12_plainNumber_4 : decode cX12_plainNumber 4 = .ok (.iload_n 2, 1) := by decide +kernel
theorem dX12_plainNumber_5 : decode cX12_plainNumber 5 = .ok (.iconst 4, 1) := by decide +kernel
theorem dX12_plainNumber_6 : decode cX12_plainNumber 6 = .ok (.if_icmp .ge 42, 3) := by decide +kernel
theorem dX12_plainNumber_9 : decode cX12_plainNumber 9 = .ok (.aload_n 0, 1) := by decide +kernel
theorem dX12_plainNumber_10 : decode cX12_plainNumber 10 = .ok (.invokevirtual 122, 3) := by decide +kernel
theorem dX12_plainNumber_13 : decode cX12_plainNumber 13 = .ok (.invokestatic 141, 3) := by decide +kernel
theorem dX12_plainNumber_16 : decode cX12_plainNumber 16 = .ok (.ifCond .eq 32, 3) := by decide +kernel
theorem dX12_plainNumber_19 : decode cX12_plainNumber 19 = .ok (.bipush 10, 2) := by decide +kernel
theorem dX12_plainNumber_21 : decode cX12_plainNumber 21 = .ok (.iload_n 1, 1) := by decide +kernel
theorem dX12_plainNumber_22 : decode cX12_plainNumber 22 = .ok (.imul, 1) := by decide +kernel
theorem dX12_plainNumber_23 : decode cX12_plainNumber 23 = .ok (.aload_n 0, 1) := by decide +kernel
theorem dX12_plainNumber_24 : decode cX12_plainNumber 24 = .ok (.invokevirtual 122, 3) := by decide +kernel
theorem dX12_plainNumber_27 : decode cX12_plainNumber 27 = .ok (.iadd, 1) := by decide +kernel
theorem dX12_plainNumber_28 : decode cX12_plainNumber 28 = .ok (.bipush 48, 2) := by decide +kernel
theorem dX12_plainNumber_30 : decode cX12_plainNumber 30 = .ok (.isub, 1) := by decide +kernel
theorem dX12_plainNumber_31 : decode cX12_plainNumber 31 = .ok (.istore_n 1, 1) := by decide +kernel
theorem dX12_plainNumber_32 : decode cX12_plainNumber 32 = .ok (.aload_n 0, 1) := by decide +kernel
theorem dX12_plainNumber_33 : decode cX12_plainNumber 33 = .ok (.dup, 1) := by decide +kernel
theorem dX12_plainNumber_34 : decode cX12_plainNumber 34 = .ok (.getfield 119, 3) := by decide +kernel
theorem dX12_plainNumber_37 : decode cX12_plainNumber 37 = .ok (.iconst 1, 1) := by decide +kernel
theorem dX12_plainNumber_38 : decode cX12_plainNumber 38 = .ok (.iadd, 1) := by decide +kernel
theorem dX12_plainNumber_39 : decode cX12_plainNumber 39 = .ok (.putfield 119, 3) := by decide +kernel
theorem dX12_plainNumber_42 : decode cX12_plainNumber 42 = .ok (.iinc 2 1, 3) := by decide +kernel
theorem dX12_plainNumber_45 : decode cX12_plainNumber 45 = .ok (.goto (-41), 3) := by decide +kernel
theorem dX12_plainNumber_48 : decode cX12_plainNumber 48 = .ok (.aload_n 0, 1) := by decide +kernel
theorem dX12_plainNumber_49 : decode cX12_plainNumber 49 = .ok (.invokevirtual 122, 3) := by decide +kernel
theorem dX12_plainNumber_52 : decode cX12_plainNumber 52 = .ok (.invokestatic 141, 3) := by decide +kernel
theorem dX12_plainNumber_55 : decode cX12_plainNumber 55 = .ok (.ifCond .eq 7, 3) := by decide +kernel
theorem dX12_plainNumber_58 : decode cX12_plainNumber 58 = .ok (.aload_n 0, 1) := by decide +kernel
theorem dX12_plainNumber_59 : decode cX12_plainNumber 59 = .ok (.invokevirtual 135, 3) := by decide +kernel
theorem dX12_plainNumber_62 : decode cX12_plainNumber 62 = .ok (.iload_n 1, 1) := by decide +kernel
theorem dX12_plainNumber_63 : decode cX12_plainNumber 63 = .ok (.ireturn, 1) := by decide +kernel
def kX12_plainNumber_0 (g : sk_G) (d ck sk : Nat) (Q : sk_P) : sk_K := o_i (0) (o_istore 1 (o_i (0) (o_istore 2 (sk_B (g, d, ck, sk, xX12_plainNumber, Q) 4))))
theorem tX12_plainNumber_0 {g : sk_G} {d ck sk : Nat} {Q : sk_P} : sk_S (g, d, ck, sk, xX12_plainNumber, Q) 0 (kX12_plainNumber_0 g d ck sk Q) := s_iconst dX12_plainNumber_0 (s_istore_n dX12_plainNumber_1 rfl (by decide : 1 < 3) (s_iconst dX12_plainNumber_2 (s_istore_n dX12_plainNumber_3 rfl (by decide : 2 < 3) (sk_id))))
set_option maxRecDepth 20000 in
def kX12_plainNumber_4 (g : sk_G) (d ck sk : Nat) (Q : sk_P) : sk_K := o_iload 2 (o_i (4) (o_icge (sk_B (g, d, ck, sk, xX12_plainNumber, Q) 48) (o_aload 0 (o_invB (g, d, ck, sk, xX12_plainNumber, Q) xX12_here 0 12 0 0 (o_stcB (g, d, ck, sk, xX12_plainNumber, Q) xX12_isDigit 1 0 0 (o_ifeq (sk_B (g, d, ck, sk, xX12_plainNumber, Q) 48) (o_i (10) (o_iload 1 (o_imul (o_aload 0 (o_invB (g, d, ck, sk, xX12_plainNumber, Q) xX12_here 0 12 0 0 (o_iadd (o_i (48) (o_isub (o_istore 1 (o_aload 0 (o_dup (o_getf 12 3 (o_i (1) (o_iadd (o_puti 12 3 (o_iinc 2 (1) (sk_B (g, d, ck, sk, xX12_plainNumber, Q) 4)))))))))))))))))))))))
set_option maxRecDepth 20000 in
theorem tX12_plainNumber_4 {g : sk_G} {d ck sk : Nat} {Q : sk_P} : sk_S (g, d, ck, sk, xX12_plainNumber, Q) 4 (kX12_plainNumber_4 g d ck sk Q) := s_iload_n dX12_plainNumber_4 rfl (s_iconst dX12_plainNumber_5 (s_icge (tgt := 48) dX12_plainNumber_6 (by decide) (sk_id) (s_aload_n dX12_plainNumber_9 rfl (s_invB (w' := (g, d, ck, sk, xX12_plainNumber, Q)) (ci := 12) (ck := 0) (sk := 0) (T := TX12) (N := 49) dX12_plainNumber_10 m_X12_here rfl (by decide) qm_X12_122 qi_X12_here qe_X12_here rfl (s_stcB (w' := (g, d, ck, sk, xX12_plainNumber, Q)) (ck := 0) (sk := 0) dX12_plainNumber_13 m_X12_isDigit qm_X12_141 qs_X12_isDigit rfl (s_ifeq (tgt := 48) dX12_plainNumber_16 (by decide) (sk_id) (s_bipush dX12_plainNumber_19 rfl (s_iload_n dX12_plainNumber_21 rfl (s_imul dX12_plainNumber_22 (s_aload_n dX12_plainNumber_23 rfl (s_invB (w' := (g, d, ck, sk, xX12_plainNumber, Q)) (ci := 12) (ck := 0) (sk := 0) (T := TX12) (N := 49) dX12_plainNumber_24 m_X12_here rfl (by decide) qm_X12_122 qi_X12_here qe_X12_here rfl (s_iadd dX12_plainNumber_27 (s_bipush dX12_plainNumber_28 rfl (s_isub dX12_plainNumber_30 (s_istore_n dX12_plainNumber_31 rfl (by decide : 1 < 3) (s_aload_n dX12_plainNumber_32 rfl (s_dup dX12_plainNumber_33 (s_getf (ci := 12) (j := 3) (C := RX12) (T := TX12) (N := 49) dX12_plainNumber_34 rfl (by decide) (by decide) qf_X12_119 (s_iconst dX12_plainNumber_37 (s_iadd dX12_plainNumber_38 (s_puti (ci := 12) (j := 3) (C := RX12) (T := TX12) (N := 49) dX12_plainNumber_39 rfl (by decide) (by decide) rfl (tyX12_ok 3 (by decide)) qf_X12_119 (s_iinc dX12_plainNumber_42 (by decide : 2 < 3) (s_goto (tgt := 4) dX12_plainNumber_45 (by decide) (sk_id))))))))))))))))))))))))
set_option maxRecDepth 20000 in
def kX12_plainNumber_48 (g : sk_G) (d ck sk : Nat) (Q : sk_P) : sk_K := o_aload 0 (o_invB (g, d, ck, sk, xX12_plainNumber, Q) xX12_here 0 12 0 0 (o_stcB (g, d, ck, sk, xX12_plainNumber, Q) xX12_isDigit 1 0 0 (o_ifeq (o_iload 1 (o_iret (g, d, ck, sk, xX12_plainNumber, Q))) (o_aload 0 (o_invB (g, d, ck, sk, xX12_plainNumber, Q) xX12_bad 0 12 0 0 (o_iload 1 (o_iret (g, d, ck, sk, xX12_plainNumber, Q))))))))
set_option maxRecDepth 20000 in
theorem tX12_plainNumber_48 {g : sk_G} {d ck sk : Nat} {Q : sk_P} : sk_S (g, d, ck, sk, xX12_plainNumber, Q) 48 (kX12_plainNumber_48 g d ck sk Q) := s_aload_n dX12_plainNumber_48 rfl (s_invB (w' := (g, d, ck, sk, xX12_plainNumber, Q)) (ci := 12) (ck := 0) (sk := 0) (T := TX12) (N := 49) dX12_plainNumber_49 m_X12_here rfl (by decide) qm_X12_122 qi_X12_here qe_X12_here rfl (s_stcB (w' := (g, d, ck, sk, xX12_plainNumber, Q)) (ck := 0) (sk := 0) dX12_plainNumber_52 m_X12_isDigit qm_X12_141 qs_X12_isDigit rfl (s_ifeq (tgt := 62) dX12_plainNumber_55 (by decide) (s_iload_n dX12_plainNumber_62 rfl (s_iret dX12_plainNumber_63 rfl)) (s_aload_n dX12_plainNumber_58 rfl (s_invB (w' := (g, d, ck, sk, xX12_plainNumber, Q)) (ci := 12) (ck := 0) (sk := 0) (T := TX12) (N := 49) dX12_plainNumber_59 m_X12_bad rfl (by decide) qm_X12_135 qi_X12_bad qe_X12_bad rfl (s_iload_n dX12_plainNumber_62 rfl (s_iret dX12_plainNumber_63 rfl)))))))
theorem dX12_letterOf_0 : decode cX12_letterOf 0 = .ok (.iload_n 0, 1) := by decide +kernel
theorem dX12_letterOf_1 : decode cX12_letterOf 1 = .ok (.bipush 115, 2) := by decide +kernel
theorem dX12_letterOf_3 : decode cX12_letterOf 3 = .ok (.if_icmp .ne 7, 3) := by decide +kernel
theorem dX12_letterOf_6 : decode cX12_letterOf 6 = .ok (.iconst 0, 1) := by decide +kernel
theorem dX12_letterOf_7 : decode cX12_letterOf 7 = .ok (.goto 54, 3) := by decide +kernel
theorem dX12_letterOf_10 : decode cX12_letterOf 10 = .ok (.iload_n 0, 1) := by decide +kernel
theorem dX12_letterOf_11 : decode cX12_letterOf 11 = .ok (.bipush 100, 2) := by decide +kernel
theorem dX12_letterOf_13 : decode cX12_letterOf 13 = .ok (.if_icmp .ne 7, 3) := by decide +kernel
theorem dX12_letterOf_16 : decode cX12_letterOf 16 = .ok (.iconst 1, 1) := by decide +kernel
theorem dX12_letterOf_17 : decode cX12_letterOf 17 = .ok (.goto 44, 3) := by decide +kernel
theorem dX12_letterOf_20 : decode cX12_letterOf 20 = .ok (.iload_n 0, 1) := by decide +kernel
theorem dX12_letterOf_21 : decode cX12_letterOf 21 = .ok (.bipush 102, 2) := by decide +kernel
theorem dX12_letterOf_23 : decode cX12_letterOf 23 = .ok (.if_icmp .ne 7, 3) := by decide +kernel
theorem dX12_letterOf_26 : decode cX12_letterOf 26 = .ok (.iconst 2, 1) := by decide +kernel
theorem dX12_letterOf_27 : decode cX12_letterOf 27 = .ok (.goto 34, 3) := by decide +kernel
theorem dX12_letterOf_30 : decode cX12_letterOf 30 = .ok (.iload_n 0, 1) := by decide +kernel
theorem dX12_letterOf_31 : decode cX12_letterOf 31 = .ok (.bipush 105, 2) := by decide +kernel
theorem dX12_letterOf_33 : decode cX12_letterOf 33 = .ok (.if_icmp .ne 7, 3) := by decide +kernel
theorem dX12_letterOf_36 : decode cX12_letterOf 36 = .ok (.iconst 3, 1) := by decide +kernel
theorem dX12_letterOf_37 : decode cX12_letterOf 37 = .ok (.goto 24, 3) := by decide +kernel
theorem dX12_letterOf_40 : decode cX12_letterOf 40 = .ok (.iload_n 0, 1) := by decide +kernel
theorem dX12_letterOf_41 : decode cX12_letterOf 41 = .ok (.bipush 114, 2) := by decide +kernel
theorem dX12_letterOf_43 : decode cX12_letterOf 43 = .ok (.if_icmp .ne 7, 3) := by decide +kernel
theorem dX12_letterOf_46 : decode cX12_letterOf 46 = .ok (.iconst 4, 1) := by decide +kernel
theorem dX12_letterOf_47 : decode cX12_letterOf 47 = .ok (.goto 14, 3) := by decide +kernel
theorem dX12_letterOf_50 : decode cX12_letterOf 50 = .ok (.iload_n 0, 1) := by decide +kernel
theorem dX12_letterOf_51 : decode cX12_letterOf 51 = .ok (.bipush 121, 2) := by decide +kernel
theorem dX12_letterOf_53 : decode cX12_letterOf 53 = .ok (.if_icmp .ne 7, 3) := by decide +kernel
theorem dX12_letterOf_56 : decode cX12_letterOf 56 = .ok (.iconst 5, 1) := by decide +kernel
theorem dX12_letterOf_57 : decode cX12_letterOf 57 = .ok (.goto 4, 3) := by decide +kernel
theorem dX12_letterOf_60 : decode cX12_letterOf 60 = .ok (.iconst (-1), 1) := by decide +kernel
theorem dX12_letterOf_61 : decode cX12_letterOf 61 = .ok (.ireturn, 1) := by decide +kernel
set_option maxRecDepth 20000 in
def kX12_letterOf_0 (g : sk_G) (d ck sk : Nat) (Q : sk_P) : sk_K := o_iload 0 (o_i (115) (o_icne (o_iload 0 (o_i (100) (o_icne (o_iload 0 (o_i (102) (o_icne (o_iload 0 (o_i (105) (o_icne (o_iload 0 (o_i (114) (o_icne (o_iload 0 (o_i (121) (o_icne (o_i (-1) (o_iret (g, d, ck, sk, xX12_letterOf, Q))) (o_i (5) (o_iret (g, d, ck, sk, xX12_letterOf, Q)))))) (o_i (4) (o_iret (g, d, ck, sk, xX12_letterOf, Q)))))) (o_i (3) (o_iret (g, d, ck, sk, xX12_letterOf, Q)))))) (o_i (2) (o_iret (g, d, ck, sk, xX12_letterOf, Q)))))) (o_i (1) (o_iret (g, d, ck, sk, xX12_letterOf, Q)))))) (o_i (0) (o_iret (g, d, ck, sk, xX12_letterOf, Q)))))
set_option maxRecDepth 20000 in
theorem tX12_letterOf_0 {g : sk_G} {d ck sk : Nat} {Q : sk_P} : sk_S (g, d, ck, sk, xX12_letterOf, Q) 0 (kX12_letterOf_0 g d ck sk Q) := s_iload_n dX12_letterOf_0 rfl (s_bipush dX12_letterOf_1 rfl (s_icne (tgt := 10) dX12_letterOf_3 (by decide) (s_iload_n dX12_letterOf_10 rfl (s_bipush dX12_letterOf_11 rfl (s_icne (tgt := 20) dX12_letterOf_13 (by decide) (s_iload_n dX12_letterOf_20 rfl (s_bipush dX12_letterOf_21 rfl (s_icne (tgt := 30) dX12_letterOf_23 (by decide) (s_iload_n dX12_letterOf_30 rfl (s_bipush dX12_letterOf_31 rfl (s_icne (tgt := 40) dX12_letterOf_33 (by decide) (s_iload_n dX12_letterOf_40 rfl (s_bipush dX12_letterOf_41 rfl (s_icne (tgt := 50) dX12_letterOf_43 (by decide) (s_iload_n dX12_letterOf_50 rfl (s_bipush dX12_letterOf_51 rfl (s_icne (tgt := 60) dX12_letterOf_53 (by decide) (s_iconst dX12_letterOf_60 (s_iret dX12_letterOf_61 rfl)) (s_iconst dX12_letterOf_56 (s_goto (tgt := 61) dX12_letterOf_57 (by decide) (s_iret dX12_letterOf_61 rfl)))))) (s_iconst dX12_letterOf_46 (s_goto (tgt := 61) dX12_letterOf_47 (by decide) (s_iret dX12_letterOf_61 rfl)))))) (s_iconst dX12_letterOf_36 (s_goto (tgt := 61) dX12_letterOf_37 (by decide) (s_iret dX12_letterOf_61 rfl)))))) (s_iconst dX12_letterOf_26 (s_goto (tgt := 61) dX12_letterOf_27 (by decide) (s_iret dX12_letterOf_61 rfl)))))) (s_iconst dX12_letterOf_16 (s_goto (tgt := 61) dX12_letterOf_17 (by decide) (s_iret dX12_letterOf_61 rfl)))))) (s_iconst dX12_letterOf_6 (s_goto (tgt := 61) dX12_letterOf_7 (by decide) (s_iret dX12_letterOf_61 rfl)))))
theorem dX12_compare_0 : decode cX12_compare 0 = .ok (.aload_n 0, 1) := by decide +kernel
theorem dX12_compare_1 : decode cX12_compare 1 = .ok (.getfield 126, 3) := by decide +kernel
theorem dX12_compare_4 : decode cX12_compare 4 = .ok (.iconst (-1), 1) := by decide +kernel
theorem dX12_compare_5 : decode cX12_compare 5 = .ok (.if_icmp .ne 10, 3) := by decide +kernel
theorem dX12_compare_8 : decode cX12_compare 8 = .ok (.aload_n 0, 1) := by decide +kernel
theorem dX12_compare_9 : decode cX12_compare 9 = .ok (.invokevirtual 138, 3) := by decide +kernel
theorem dX12_compare_12 : decode cX12_compare 12 = .ok (.goto 4, 3) := by decide +kernel
theorem dX12_compare_15 : decode cX12_compare 15 = .ok (.iconst (-1), 1) := by decide +kernel
theorem dX12_compare_16 : decode cX12_compare 16 = .ok (.istore_n 1, 1) := by decide +kernel
theorem dX12_compare_17 : decode cX12_compare 17 = .ok (.iload_n 1, 1) := by decide +kernel
theorem dX12_compare_18 : decode cX12_compare 18 = .ok (.invokestatic 172, 3) := by decide +kernel
theorem dX12_compare_21 : decode cX12_compare 21 = .ok (.ifCond .ne 8, 3) := by decide +kernel
theorem dX12_compare_24 : decode cX12_compare 24 = .ok (.aload_n 0, 1) := by decide +kernel
theorem dX12_compare_25 : decode cX12_compare 25 = .ok (.invokevirtual 135, 3) := by decide +kernel
theorem dX12_compare_28 : decode cX12_compare 28 = .ok (.return_, 1) := by decide +kernel
theorem dX12_compare_29 : decode cX12_compare 29 = .ok (.aload_n 0, 1) := by decide +kernel
theorem dX12_compare_30 : decode cX12_compare 30 = .ok (.dup, 1) := by decide +kernel
theorem dX12_compare_31 : decode cX12_compare 31 = .ok (.getfield 119, 3) := by decide +kernel
theorem dX12_compare_34 : decode cX12_compare 34 = .ok (.iconst 1, 1) := by decide +kernel
theorem dX12_compare_35 : decode cX12_compare 35 = .ok (.iadd, 1) := by decide +kernel
theorem dX12_compare_36 : decode cX12_compare 36 = .ok (.putfield 119, 3) := by decide +kernel
theorem dX12_compare_39 : decode cX12_compare 39 = .ok (.aload_n 0, 1) := by decide +kernel
theorem dX12_compare_40 : decode cX12_compare 40 = .ok (.invokevirtual 159, 3) := by decide +kernel
theorem dX12_compare_43 : decode cX12_compare 43 = .ok (.aload_n 0, 1) := by decide +kernel
theorem dX12_compare_44 : decode cX12_compare 44 = .ok (.iload_n 1, 1) := by decide +kernel
theorem dX12_compare_45 : decode cX12_compare 45 = .ok (.bipush 61, 2) := by decide +kernel
theorem dX12_compare_47 : decode cX12_compare 47 = .ok (.if_icmp .ne 8, 3) := by decide +kernel
theorem dX12_compare_50 : decode cX12_compare 50 = .ok (.bipush 6, 2) := by decide +kernel
theorem dX12_compare_52 : decode cX12_compare 52 = .ok (.goto 16, 3) := by decide +kernel
theorem dX12_compare_55 : decode cX12_compare 55 = .ok (.iload_n 1, 1) := by decide +kernel
theorem dX12_compare_56 : decode cX12_compare 56 = .ok (.bipush 60, 2) := by decide +kernel
theorem dX12_compare_58 : decode cX12_compare 58 = .ok (.if_icmp .ne 8, 3) := by decide +kernel
theorem dX12_compare_61 : decode cX12_compare 61 = .ok (.bipush 7, 2) := by decide +kernel
theorem dX12_compare_63 : decode cX12_compare 63 = .ok (.goto 5, 3) := by decide +kernel
theorem dX12_compare_66 : decode cX12_compare 66 = .ok (.bipush 8, 2) := by decide +kernel
theorem dX12_compare_68 : decode cX12_compare 68 = .ok (.iconst 0, 1) := by decide +kernel
theorem dX12_compare_69 : decode cX12_compare 69 = .ok (.invokevirtual 148, 3) := by decide +kernel
theorem dX12_compare_72 : decode cX12_compare 72 = .ok (.return_, 1) := by decide +kernel
def kX12_compare_0 (g : sk_G) (d ck sk : Nat) (Q : sk_P) : sk_K := o_aload 0 (o_getf 12 4 (o_i (-1) (o_icne (o_i (-1) (sk_B (g, d, ck, sk, xX12_compare, Q) 16)) (o_aload 0 (o_invB (g, d, ck, sk, xX12_compare, Q) xX12_look 0 12 0 0 (sk_B (g, d, ck, sk, xX12_compare, Q) 16))))))
theorem tX12_compare_0 {g : sk_G} {d ck sk : Nat} {Q : sk_P} : sk_S (g, d, ck, sk, xX12_compare, Q) 0 (kX12_compare_0 g d ck sk Q) := s_aload_n dX12_compare_0 rfl (s_getf (ci := 12) (j := 4) (C := RX12) (T := TX12) (N := 49) dX12_compare_1 rfl (by decide) (by decide) qf_X12_126 (s_iconst dX12_compare_4 (s_icne (tgt := 15) dX12_compare_5 (by decide) (s_iconst dX12_compare_15 (sk_id)) (s_aload_n dX12_compare_8 rfl (s_invB (w' := (g, d, ck, sk, xX12_compare, Q)) (ci := 12) (ck := 0) (sk := 0) (T := TX12) (N := 49) dX12_compare_9 m_X12_look rfl (by decide) qm_X12_138 qi_X12_look qe_X12_look rfl (s_goto (tgt := 16) dX12_compare_12 (by decide) (sk_id)))))))
set_option maxRecDepth 20000 in
def kX12_compare_16 (g : sk_G) (d ck sk : Nat) (Q : sk_P) : sk_K := o_istore 1 (o_iload 1 (o_stcB (g, d, ck, sk, xX12_compare, Q) xX12_isSign 1 0 0 (o_ifne (o_aload 0 (o_dup (o_getf 12 3 (o_i (1) (o_iadd (o_puti 12 3 (o_aload 0 (o_invB (g, d, ck, sk, xX12_compare, Q) xX12_sum 0 12 0 0 (o_aload 0 (o_iload 1 (o_i (61) (o_icne (o_iload 1 (o_i (60) (o_icne (o_i (8) (o_i (0) (o_invB (g, d, ck, sk, xX12_compare, Q) xX12_put 2 12 0 0 (o_ret (g, d, ck, sk, xX12_compare, Q))))) (o_i (7) (o_i (0) (o_invB (g, d, ck, sk, xX12_compare, Q) xX12_put 2 12 0 0 (o_ret (g, d, ck, sk, xX12_compare, Q)))))))) (o_i (6) (o_i (0) (o_invB (g, d, ck, sk, xX12_compare, Q) xX12_put 2 12 0 0 (o_ret (g, d, ck, sk, xX12_compare, Q))))))))))))))))) (o_aload 0 (o_invB (g, d, ck, sk, xX12_compare, Q) xX12_bad 0 12 0 0 (o_ret (g, d, ck, sk, xX12_compare, Q)))))))
set_option maxRecDepth 20000 in
theorem tX12_compare_16 {g : sk_G} {d ck sk : Nat} {Q : sk_P} : sk_S (g, d, ck, sk, xX12_compare, Q) 16 (kX12_compare_16 g d ck sk Q) := s_istore_n dX12_compare_16 rfl (by decide : 1 < 2) (s_iload_n dX12_compare_17 rfl (s_stcB (w' := (g, d, ck, sk, xX12_compare, Q)) (ck := 0) (sk := 0) dX12_compare_18 m_X12_isSign qm_X12_172 qs_X12_isSign rfl (s_ifne (tgt := 29) dX12_compare_21 (by decide) (s_aload_n dX12_compare_29 rfl (s_dup dX12_compare_30 (s_getf (ci := 12) (j := 3) (C := RX12) (T := TX12) (N := 49) dX12_compare_31 rfl (by decide) (by decide) qf_X12_119 (s_iconst dX12_compare_34 (s_iadd dX12_compare_35 (s_puti (ci := 12) (j := 3) (C := RX12) (T := TX12) (N := 49) dX12_compare_36 rfl (by decide) (by decide) rfl (tyX12_ok 3 (by decide)) qf_X12_119 (s_aload_n dX12_compare_39 rfl (s_invB (w' := (g, d, ck, sk, xX12_compare, Q)) (ci := 12) (ck := 0) (sk := 0) (T := TX12) (N := 49) dX12_compare_40 m_X12_sum rfl (by decide) qm_X12_159 qi_X12_sum qe_X12_sum rfl (s_aload_n dX12_compare_43 rfl (s_iload_n dX12_compare_44 rfl (s_bipush dX12_compare_45 rfl (s_icne (tgt := 55) dX12_compare_47 (by decide) (s_iload_n dX12_compare_55 rfl (s_bipush dX12_compare_56 rfl (s_icne (tgt := 66) dX12_compare_58 (by decide) (s_bipush dX12_compare_66 rfl (s_iconst dX12_compare_68 (s_invB (w' := (g, d, ck, sk, xX12_compare, Q)) (ci := 12) (ck := 0) (sk := 0) (T := TX12) (N := 49) dX12_compare_69 m_X12_put rfl (by decide) qm_X12_148 qi_X12_put qe_X12_put rfl (s_ret dX12_compare_72 rfl)))) (s_bipush dX12_compare_61 rfl (s_goto (tgt := 68) dX12_compare_63 (by decide) (s_iconst dX12_compare_68 (s_invB (w' := (g, d, ck, sk, xX12_compare, Q)) (ci := 12) (ck := 0) (sk := 0) (T := TX12) (N := 49) dX12_compare_69 m_X12_put rfl (by decide) qm_X12_148 qi_X12_put qe_X12_put rfl (s_ret dX12_compare_72 rfl)))))))) (s_bipush dX12_compare_50 rfl (s_goto (tgt := 68) dX12_compare_52 (by decide) (s_iconst dX12_compare_68 (s_invB (w' := (g, d, ck, sk, xX12_compare, Q)) (ci := 12) (ck := 0) (sk := 0) (T := TX12) (N := 49) dX12_compare_69 m_X12_put rfl (by decide) qm_X12_148 qi_X12_put qe_X12_put rfl (s_ret dX12_compare_72 rfl))))))))))))))))) (s_aload_n dX12_compare_24 rfl (s_invB (w' := (g, d, ck, sk, xX12_compare, Q)) (ci := 12) (ck := 0) (sk := 0) (T := TX12) (N := 49) dX12_compare_25 m_X12_bad rfl (by decide) qm_X12_135 qi_X12_bad qe_X12_bad rfl (s_ret dX12_compare_28 rfl))))))
theorem dX12_isSign_0 : decode cX12_isSign 0 = .ok (.iload_n 0, 1) := by decide +kernel
theorem dX12_isSign_1 : decode cX12_isSign 1 = .ok (.bipush 61, 2) := by decide +kernel
theorem dX12_isSign_3 : decode cX12_isSign 3 = .ok (.if_icmp .eq 15, 3) := by decide +kernel
theorem dX12_isSign_6 : decode cX12_isSign 6 = .ok (.iload_n 0, 1) := by decide +kernel
theorem dX12_isSign_7 : decode cX12_isSign 7 = .ok (.bipush 60, 2) := by decide +kernel
theorem dX12_isSign_9 : decode cX12_isSign 9 = .ok (.if_icmp .eq 9, 3) := by decide +kernel
theorem dX12_isSign_12 : decode cX12_isSign 12 = .ok (.iload_n 0, 1) := by decide +kernel
theorem dX12_isSign_13 : decode cX12_isSign 13 = .ok (.bipush 62, 2) := by decide +kernel
theorem dX12_isSign_15 : decode cX12_isSign 15 = .ok (.if_icmp .ne 7, 3) := by decide +kernel
theorem dX12_isSign_18 : decode cX12_isSign 18 = .ok (.iconst 1, 1) := by decide +kernel
theorem dX12_isSign_19 : decode cX12_isSign 19 = .ok (.goto 4, 3) := by decide +kernel
theorem dX12_isSign_22 : decode cX12_isSign 22 = .ok (.iconst 0, 1) := by decide +kernel
theorem dX12_isSign_23 : decode cX12_isSign 23 = .ok (.ireturn, 1) := by decide +kernel
set_option maxRecDepth 20000 in
def kX12_isSign_0 (g : sk_G) (d ck sk : Nat) (Q : sk_P) : sk_K := o_iload 0 (o_i (61) (o_iceq (o_i (1) (o_zret (g, d, ck, sk, xX12_isSign, Q))) (o_iload 0 (o_i (60) (o_iceq (o_i (1) (o_zret (g, d, ck, sk, xX12_isSign, Q))) (o_iload 0 (o_i (62) (o_icne (o_i (0) (o_zret (g, d, ck, sk, xX12_isSign, Q))) (o_i (1) (o_zret (g, d, ck, sk, xX12_isSign, Q)))))))))))
set_option maxRecDepth 20000 in
theorem tX12_isSign_0 {g : sk_G} {d ck sk : Nat} {Q : sk_P} : sk_S (g, d, ck, sk, xX12_isSign, Q) 0 (kX12_isSign_0 g d ck sk Q) := s_iload_n dX12_isSign_0 rfl (s_bipush dX12_isSign_1 rfl (s_iceq (tgt := 18) dX12_isSign_3 (by decide) (s_iconst dX12_isSign_18 (s_goto (tgt := 23) dX12_isSign_19 (by decide) (s_zret dX12_isSign_23 rfl))) (s_iload_n dX12_isSign_6 rfl (s_bipush dX12_isSign_7 rfl (s_iceq (tgt := 18) dX12_isSign_9 (by decide) (s_iconst dX12_isSign_18 (s_goto (tgt := 23) dX12_isSign_19 (by decide) (s_zret dX12_isSign_23 rfl))) (s_iload_n dX12_isSign_12 rfl (s_bipush dX12_isSign_13 rfl (s_icne (tgt := 22) dX12_isSign_15 (by decide) (s_iconst dX12_isSign_22 (s_zret dX12_isSign_23 rfl)) (s_iconst dX12_isSign_18 (s_goto (tgt := 23) dX12_isSign_19 (by decide) (s_zret dX12_isSign_23 rfl)))))))))))
theorem dX12_goOnAnd_0 : decode cX12_goOnAnd 0 = .ok (.aload_n 0, 1) := by decide +kernel
theorem dX12_goOnAnd_1 : decode cX12_goOnAnd 1 = .ok (.getfield 126, 3) := by decide +kernel
theorem dX12_goOnAnd_4 : decode cX12_goOnAnd 4 = .ok (.iconst (-1), 1) := by decide +kernel
theorem dX12_goOnAnd_5 : decode cX12_goOnAnd 5 = .ok (.if_icmp .ne 36, 3) := by decide +kernel
theorem dX12_goOnAnd_8 : decode cX12_goOnAnd 8 = .ok (.aload_n 0, 1) := by decide +kernel
theorem dX12_goOnAnd_9 : decode cX12_goOnAnd 9 = .ok (.invokevirtual 138, 3) := by decide +kernel
theorem dX12_goOnAnd_12 : decode cX12_goOnAnd 12 = .ok (.bipush 38, 2) := by decide +kernel
theorem dX12_goOnAnd_14 : decode cX12_goOnAnd 14 = .ok (.if_icmp .ne 27, 3) := by decide +kernel
theorem dX12_goOnAnd_17 : decode cX12_goOnAnd 17 = .ok (.aload_n 0, 1) := by decide +kernel
theorem dX12_goOnAnd_18 : decode cX12_goOnAnd 18 = .ok (.dup, 1) := by decide +kernel
theorem dX12_goOnAnd_19 : decode cX12_goOnAnd 19 = .ok (.getfield 119, 3) := by decide +kernel
theorem dX12_goOnAnd_22 : decode cX12_goOnAnd 22 = .ok (.iconst 1, 1) := by decide +kernel
theorem dX12_goOnAnd_23 : decode cX12_goOnAnd 23 = .ok (.iadd, 1) := by decide +kernel
theorem dX12_goOnAnd_24 : decode cX12_goOnAnd 24 = .ok (.putfield 119, 3) := by decide +kernel
theorem dX12_goOnAnd_27 : decode cX12_goOnAnd 27 = .ok (.aload_n 0, 1) := by decide +kernel
theorem dX12_goOnAnd_28 : decode cX12_goOnAnd 28 = .ok (.invokevirtual 175, 3) := by decide +kernel
theorem dX12_goOnAnd_31 : decode cX12_goOnAnd 31 = .ok (.aload_n 0, 1) := by decide +kernel
theorem dX12_goOnAnd_32 : decode cX12_goOnAnd 32 = .ok (.bipush 10, 2) := by decide +kernel
theorem dX12_goOnAnd_34 : decode cX12_goOnAnd 34 = .ok (.iconst 0, 1) := by decide +kernel
theorem dX12_goOnAnd_35 : decode cX12_goOnAnd 35 = .ok (.invokevirtual 148, 3) := by decide +kernel
theorem dX12_goOnAnd_38 : decode cX12_goOnAnd 38 = .ok (.goto (-38), 3) := by decide +kernel
theorem dX12_goOnAnd_41 : decode cX12_goOnAnd 41 = .ok (.return_, 1) := by decide +kernel
set_option maxRecDepth 20000 in
def kX12_goOnAnd_0 (g : sk_G) (d ck sk : Nat) (Q : sk_P) : sk_K := o_aload 0 (o_getf 12 4 (o_i (-1) (o_icne (o_ret (g, d, ck, sk, xX12_goOnAnd, Q)) (o_aload 0 (o_invB (g, d, ck, sk, xX12_goOnAnd, Q) xX12_look 0 12 0 0 (o_i (38) (o_icne (o_ret (g, d, ck, sk, xX12_goOnAnd, Q)) (o_aload 0 (o_dup (o_getf 12 3 (o_i (1) (o_iadd (o_puti 12 3 (o_aload 0 (o_invB (g, d, ck, sk, xX12_goOnAnd, Q) xX12_unit 0 12 0 0 (o_aload 0 (o_i (10) (o_i (0) (o_invB (g, d, ck, sk, xX12_goOnAnd, Q) xX12_put 2 12 0 0 (sk_B (g, d, ck, sk, xX12_goOnAnd, Q) 0))))))))))))))))))))
set_option maxRecDepth 20000 in
theorem tX12_goOnAnd_0 {g : sk_G} {d ck sk : Nat} {Q : sk_P} : sk_S (g, d, ck, sk, xX12_goOnAnd, Q) 0 (kX12_goOnAnd_0 g d ck sk Q) := s_aload_n dX12_goOnAnd_0 rfl (s_getf (ci := 12) (j := 4) (C := RX12) (T := TX12) (N := 49) dX12_goOnAnd_1 rfl (by decide) (by decide) qf_X12_126 (s_iconst dX12_goOnAnd_4 (s_icne (tgt := 41) dX12_goOnAnd_5 (by decide) (s_ret dX12_goOnAnd_41 rfl) (s_aload_n dX12_goOnAnd_8 rfl (s_invB (w' := (g, d, ck, sk, xX12_goOnAnd, Q)) (ci := 12) (ck := 0) (sk := 0) (T := TX12) (N := 49) dX12_goOnAnd_9 m_X12_look rfl (by decide) qm_X12_138 qi_X12_look qe_X12_look rfl (s_bipush dX12_goOnAnd_12 rfl (s_icne (tgt := 41) dX12_goOnAnd_14 (by decide) (s_ret dX12_goOnAnd_41 rfl) (s_aload_n dX12_goOnAnd_17 rfl (s_dup dX12_goOnAnd_18 (s_getf (ci := 12) (j := 3) (C := RX12) (T := TX12) (N := 49) dX12_goOnAnd_19 rfl (by decide) (by decide) qf_X12_119 (s_iconst dX12_goOnAnd_22 (s_iadd dX12_goOnAnd_23 (s_puti (ci := 12) (j := 3) (C := RX12) (T := TX12) (N := 49) dX12_goOnAnd_24 rfl (by decide) (by decide) rfl (tyX12_ok 3 (by decide)) qf_X12_119 (s_aload_n dX12_goOnAnd_27 rfl (s_invB (w' := (g, d, ck, sk, xX12_goOnAnd, Q)) (ci := 12) (ck := 0) (sk := 0) (T := TX12) (N := 49) dX12_goOnAnd_28 m_X12_unit rfl (by decide) qm_X12_175 qi_X12_unit qe_X12_unit rfl (s_aload_n dX12_goOnAnd_31 rfl (s_bipush dX12_goOnAnd_32 rfl (s_iconst dX12_goOnAnd_34 (s_invB (w' := (g, d, ck, sk, xX12_goOnAnd, Q)) (ci := 12) (ck := 0) (sk := 0) (T := TX12) (N := 49) dX12_goOnAnd_35 m_X12_put rfl (by decide) qm_X12_148 qi_X12_put qe_X12_put rfl (s_goto (tgt := 0) dX12_goOnAnd_38 (by decide) (sk_id)))))))))))))))))))))
theorem dX12_goOnOr_0 : decode cX12_goOnOr 0 = .ok (.aload_n 0, 1) := by decide +kernel
theorem dX12_goOnOr_1 : decode cX12_goOnOr 1 = .ok (.getfield 126, 3) := by decide +kernel
theorem dX12_goOnOr_4 : decode cX12_goOnOr 4 = .ok (.iconst (-1), 1) := by decide +kernel
theorem dX12_goOnOr_5 : decode cX12_goOnOr 5 = .ok (.if_icmp .ne 40, 3) := by decide +kernel
theorem dX12_goOnOr_8 : decode cX12_goOnOr 8 = .ok (.aload_n 0, 1) := by decide +kernel
theorem dX12_goOnOr_9 : decode cX12_goOnOr 9 = .ok (.invokevirtual 138, 3) := by decide +kernel
theorem dX12_goOnOr_12 : decode cX12_goOnOr 12 = .ok (.bipush 124, 2) := by decide +kernel
theorem dX12_goOnOr_14 : decode cX12_goOnOr 14 = .ok (.if_icmp .ne 31, 3) := by decide +kernel
theorem dX12_goOnOr_17 : decode cX12_goOnOr 17 = .ok (.aload_n 0, 1) := by decide +kernel
theorem dX12_goOnOr_18 : decode cX12_goOnOr 18 = .ok (.dup, 1) := by decide +kernel
theorem dX12_goOnOr_19 : decode cX12_goOnOr 19 = .ok (.getfield 119, 3) := by decide +kernel
theorem dX12_goOnOr_22 : decode cX12_goOnOr 22 = .ok (.iconst 1, 1) := by decide +kernel
theorem dX12_goOnOr_23 : decode cX12_goOnOr 23 = .ok (.iadd, 1) := by decide +kernel
theorem dX12_goOnOr_24 : decode cX12_goOnOr 24 = .ok (.putfield 119, 3) := by decide +kernel
theorem dX12_goOnOr_27 : decode cX12_goOnOr 27 = .ok (.aload_n 0, 1) := by decide +kernel
theorem dX12_goOnOr_28 : decode cX12_goOnOr 28 = .ok (.invokevirtual 175, 3) := by decide +kernel
theorem dX12_goOnOr_31 : decode cX12_goOnOr 31 = .ok (.aload_n 0, 1) := by decide +kernel
theorem dX12_goOnOr_32 : decode cX12_goOnOr 32 = .ok (.invokevirtual 184, 3) := by decide +kernel
theorem dX12_goOnOr_35 : decode cX12_goOnOr 35 = .ok (.aload_n 0, 1) := by decide +kernel
theorem dX12_goOnOr_36 : decode cX12_goOnOr 36 = .ok (.bipush 11, 2) := by decide +kernel
theorem dX12_goOnOr_38 : decode cX12_goOnOr 38 = .ok (.iconst 0, 1) := by decide +kernel
theorem dX12_goOnOr_39 : decode cX12_goOnOr 39 = .ok (.invokevirtual 148, 3) := by decide +kernel
theorem dX12_goOnOr_42 : decode cX12_goOnOr 42 = .ok (.goto (-42), 3) := by decide +kernel
theorem dX12_goOnOr_45 : decode cX12_goOnOr 45 = .ok (.return_, 1) := by decide +kernel
set_option maxRecDepth 20000 in
def kX12_goOnOr_0 (g : sk_G) (d ck sk : Nat) (Q : sk_P) : sk_K := o_aload 0 (o_getf 12 4 (o_i (-1) (o_icne (o_ret (g, d, ck, sk, xX12_goOnOr, Q)) (o_aload 0 (o_invB (g, d, ck, sk, xX12_goOnOr, Q) xX12_look 0 12 0 0 (o_i (124) (o_icne (o_ret (g, d, ck, sk, xX12_goOnOr, Q)) (o_aload 0 (o_dup (o_getf 12 3 (o_i (1) (o_iadd (o_puti 12 3 (o_aload 0 (o_invB (g, d, ck, sk, xX12_goOnOr, Q) xX12_unit 0 12 0 0 (o_aload 0 (o_invB (g, d, ck, sk, xX12_goOnOr, Q) xX12_goOnAnd 0 12 0 0 (o_aload 0 (o_i (11) (o_i (0) (o_invB (g, d, ck, sk, xX12_goOnOr, Q) xX12_put 2 12 0 0 (sk_B (g, d, ck, sk, xX12_goOnOr, Q) 0))))))))))))))))))))))
set_option maxRecDepth 20000 in
theorem tX12_goOnOr_0 {g : sk_G} {d ck sk : Nat} {Q : sk_P} : sk_S (g, d, ck, sk, xX12_goOnOr, Q) 0 (kX12_goOnOr_0 g d ck sk Q) := s_aload_n dX12_goOnOr_0 rfl (s_getf (ci := 12) (j := 4) (C := RX12) (T := TX12) (N := 49) dX12_goOnOr_1 rfl (by decide) (by decide) qf_X12_126 (s_iconst dX12_goOnOr_4 (s_icne (tgt := 45) dX12_goOnOr_5 (by decide) (s_ret dX12_goOnOr_45 rfl) (s_aload_n dX12_goOnOr_8 rfl (s_invB (w' := (g, d, ck, sk, xX12_goOnOr, Q)) (ci := 12) (ck := 0) (sk := 0) (T := TX12) (N := 49) dX12_goOnOr_9 m_X12_look rfl (by decide) qm_X12_138 qi_X12_look qe_X12_look rfl (s_bipush dX12_goOnOr_12 rfl (s_icne (tgt := 45) dX12_goOnOr_14 (by decide) (s_ret dX12_goOnOr_45 rfl) (s_aload_n dX12_goOnOr_17 rfl (s_dup dX12_goOnOr_18 (s_getf (ci := 12) (j := 3) (C := RX12) (T := TX12) (N := 49) dX12_goOnOr_19 rfl (by decide) (by decide) qf_X12_119 (s_iconst dX12_goOnOr_22 (s_iadd dX12_goOnOr_23 (s_puti (ci := 12) (j := 3) (C := RX12) (T := TX12) (N := 49) dX12_goOnOr_24 rfl (by decide) (by decide) rfl (tyX12_ok 3 (by decide)) qf_X12_119 (s_aload_n dX12_goOnOr_27 rfl (s_invB (w' := (g, d, ck, sk, xX12_goOnOr, Q)) (ci := 12) (ck := 0) (sk := 0) (T := TX12) (N := 49) dX12_goOnOr_28 m_X12_unit rfl (by decide) qm_X12_175 qi_X12_unit qe_X12_unit rfl (s_aload_n dX12_goOnOr_31 rfl (s_invB (w' := (g, d, ck, sk, xX12_goOnOr, Q)) (ci := 12) (ck := 0) (sk := 0) (T := TX12) (N := 49) dX12_goOnOr_32 m_X12_goOnAnd rfl (by decide) qm_X12_184 qi_X12_goOnAnd qe_X12_goOnAnd rfl (s_aload_n dX12_goOnOr_35 rfl (s_bipush dX12_goOnOr_36 rfl (s_iconst dX12_goOnOr_38 (s_invB (w' := (g, d, ck, sk, xX12_goOnOr, Q)) (ci := 12) (ck := 0) (sk := 0) (T := TX12) (N := 49) dX12_goOnOr_39 m_X12_put rfl (by decide) qm_X12_148 qi_X12_put qe_X12_put rfl (s_goto (tgt := 0) dX12_goOnOr_42 (by decide) (sk_id)))))))))))))))))))))))
theorem dX12_atEnd_0 : decode cX12_atEnd 0 = .ok (.aload_n 0, 1) := by decide +kernel
theorem dX12_atEnd_1 : decode cX12_atEnd 1 = .ok (.getfield 126, 3) := by decide +kernel
theorem dX12_atEnd_4 : decode cX12_atEnd 4 = .ok (.iconst (-1), 1) := by decide +kernel
theorem dX12_atEnd_5 : decode cX12_atEnd 5 = .ok (.if_icmp .ne 15, 3) := by decide +kernel
theorem dX12_atEnd_8 : decode cX12_atEnd 8 = .ok (.aload_n 0, 1) := by decide +kernel
theorem dX12_atEnd_9 : decode cX12_atEnd 9 = .ok (.invokevirtual 138, 3) := by decide +kernel
theorem dX12_atEnd_12 : decode cX12_atEnd 12 = .ok (.iconst (-1), 1) := by decide +kernel
theorem dX12_atEnd_13 : decode cX12_atEnd 13 = .ok (.if_icmp .eq 7, 3) := by decide +kernel
theorem dX12_atEnd_16 : decode cX12_atEnd 16 = .ok (.aload_n 0, 1) := by decide +kernel
theorem dX12_atEnd_17 : decode cX12_atEnd 17 = .ok (.invokevirtual 135, 3) := by decide +kernel
theorem dX12_atEnd_20 : decode cX12_atEnd 20 = .ok (.aload_n 0, 1) := by decide +kernel
theorem dX12_atEnd_21 : decode cX12_atEnd 21 = .ok (.getfield 126, 3) := by decide +kernel
theorem dX12_atEnd_24 : decode cX12_atEnd 24 = .ok (.ireturn, 1) := by decide +kernel
set_option maxRecDepth 20000 in
def kX12_atEnd_0 (g : sk_G) (d ck sk : Nat) (Q : sk_P) : sk_K := o_aload 0 (o_getf 12 4 (o_i (-1) (o_icne (o_aload 0 (o_getf 12 4 (o_iret (g, d, ck, sk, xX12_atEnd, Q)))) (o_aload 0 (o_invB (g, d, ck, sk, xX12_atEnd, Q) xX12_look 0 12 0 0 (o_i (-1) (o_iceq (o_aload 0 (o_getf 12 4 (o_iret (g, d, ck, sk, xX12_atEnd, Q)))) (o_aload 0 (o_invB (g, d, ck, sk, xX12_atEnd, Q) xX12_bad 0 12 0 0 (o_aload 0 (o_getf 12 4 (o_iret (g, d, ck, sk, xX12_atEnd, Q)))))))))))))
set_option maxRecDepth 20000 in
theorem tX12_atEnd_0 {g : sk_G} {d ck sk : Nat} {Q : sk_P} : sk_S (g, d, ck, sk, xX12_atEnd, Q) 0 (kX12_atEnd_0 g d ck sk Q) := s_aload_n dX12_atEnd_0 rfl (s_getf (ci := 12) (j := 4) (C := RX12) (T := TX12) (N := 49) dX12_atEnd_1 rfl (by decide) (by decide) qf_X12_126 (s_iconst dX12_atEnd_4 (s_icne (tgt := 20) dX12_atEnd_5 (by decide) (s_aload_n dX12_atEnd_20 rfl (s_getf (ci := 12) (j := 4) (C := RX12) (T := TX12) (N := 49) dX12_atEnd_21 rfl (by decide) (by decide) qf_X12_126 (s_iret dX12_atEnd_24 rfl))) (s_aload_n dX12_atEnd_8 rfl (s_invB (w' := (g, d, ck, sk, xX12_atEnd, Q)) (ci := 12) (ck := 0) (sk := 0) (T := TX12) (N := 49) dX12_atEnd_9 m_X12_look rfl (by decide) qm_X12_138 qi_X12_look qe_X12_look rfl (s_iconst dX12_atEnd_12 (s_iceq (tgt := 20) dX12_atEnd_13 (by decide) (s_aload_n dX12_atEnd_20 rfl (s_getf (ci := 12) (j := 4) (C := RX12) (T := TX12) (N := 49) dX12_atEnd_21 rfl (by decide) (by decide) qf_X12_126 (s_iret dX12_atEnd_24 rfl))) (s_aload_n dX12_atEnd_16 rfl (s_invB (w' := (g, d, ck, sk, xX12_atEnd, Q)) (ci := 12) (ck := 0) (sk := 0) (T := TX12) (N := 49) dX12_atEnd_17 m_X12_bad rfl (by decide) qm_X12_135 qi_X12_bad qe_X12_bad rfl (s_aload_n dX12_atEnd_20 rfl (s_getf (ci := 12) (j := 4) (C := RX12) (T := TX12) (N := 49) dX12_atEnd_21 rfl (by decide) (by decide) qf_X12_126 (s_iret dX12_atEnd_24 rfl))))))))))))
theorem dX12_readWriting_0 : decode cX12_readWriting 0 = .ok (.aload_n 0, 1) := by decide +kernel
theorem dX12_readWriting_1 : decode cX12_readWriting 1 = .ok (.iconst 0, 1) := by decide +kernel
theorem dX12_readWriting_2 : decode cX12_readWriting 2 = .ok (.putfield 119, 3) := by decide +kernel
theorem dX12_readWriting_5 : decode cX12_readWriting 5 = .ok (.aload_n 0, 1) := by decide +kernel
theorem dX12_readWriting_6 : decode cX12_readWriting 6 = .ok (.iconst (-1), 1) := by decide +kernel
theorem dX12_readWriting_7 : decode cX12_readWriting 7 = .ok (.putfield 126, 3) := by decide +kernel
theorem dX12_readWriting_10 : decode cX12_readWriting 10 = .ok (.aload_n 0, 1) := by decide +kernel
theorem dX12_readWriting_11 : decode cX12_readWriting 11 = .ok (.getfield 55, 3) := by decide +kernel
theorem dX12_readWriting_14 : decode cX12_readWriting 14 = .ok (.iload_n 1, 1) := by decide +kernel
theorem dX12_readWriting_15 : decode cX12_readWriting 15 = .ok (.iconst 0, 1) := by decide +kernel
theorem dX12_readWriting_16 : decode cX12_readWriting 16 = .ok (.iastore, 1) := by decide +kernel
theorem dX12_readWriting_17 : decode cX12_readWriting 17 = .ok (.iconst 0, 1) := by decide +kernel
theorem dX12_readWriting_18 : decode cX12_readWriting 18 = .ok (.istore_n 2, 1) := by decide +kernel
theorem dX12_readWriting_19 : decode cX12_readWriting 19 = .ok (.iload_n 2, 1) := by decide +kernel
theorem dX12_readWriting_20 : decode cX12_readWriting 20 = .ok (.iconst 4, 1) := by decide +kernel
theorem dX12_readWriting_21 : decode cX12_readWriting 21 = .ok (.if_icmp .ge 20, 3) := by decide +kernel
theorem dX12_readWriting_24 : decode cX12_readWriting 24 = .ok (.aload_n 0, 1) := by decide +kernel
theorem dX12_readWriting_25 : decode cX12_readWriting 25 = .ok (.getfield 58, 3) := by decide +kernel
theorem dX12_readWriting_28 : decode cX12_readWriting 28 = .ok (.iconst 4, 1) := by decide +kernel
theorem dX12_readWriting_29 : decode cX12_readWriting 29 = .ok (.iload_n 1, 1) := by decide +kernel
theorem dX12_readWriting_30 : decode cX12_readWriting 30 = .ok (.imul, 1) := by decide +kernel
theorem dX12_readWriting_31 : decode cX12_readWriting 31 = .ok (.iload_n 2, 1) := by decide +kernel
theorem dX12_readWriting_32 : decode cX12_readWriting 32 = .ok (.iadd, 1) := by decide +kernel
theorem dX12_readWriting_33 : decode cX12_readWriting 33 = .ok (.iconst 0, 1) := by decide +kernel
theorem dX12_readWriting_34 : decode cX12_readWriting 34 = .ok (.iastore, 1) := by decide +kernel
theorem dX12_readWriting_35 : decode cX12_readWriting 35 = .ok (.iinc 2 1, 3) := by decide +kernel
theorem dX12_readWriting_38 : decode cX12_readWriting 38 = .ok (.goto (-19), 3) := by decide +kernel
theorem dX12_readWriting_41 : decode cX12_readWriting 41 = .ok (.iconst 0, 1) := by decide +kernel
theorem dX12_readWriting_42 : decode cX12_readWriting 42 = .ok (.istore_n 2, 1) := by decide +kernel
theorem dX12_readWriting_43 : decode cX12_readWriting 43 = .ok (.iconst 0, 1) := by decide +kernel
theorem dX12_readWriting_44 : decode cX12_readWriting 44 = .ok (.istore_n 3, 1) := by decide +kernel
theorem dX12_readWriting_45 : decode cX12_readWriting 45 = .ok (.iconst 1, 1) := by decide +kernel
theorem dX12_readWriting_46 : decode cX12_readWriting 46 = .ok (.istore 4, 2) := by decide +kernel
theorem dX12_readWriting_48 : decode cX12_readWriting 48 = .ok (.iload 4, 2) := by decide +kernel
theorem dX12_readWriting_50 : decode cX12_readWriting 50 = .ok (.ifCond .eq 84, 3) := by decide +kernel
theorem dX12_readWriting_53 : decode cX12_readWriting 53 = .ok (.aload_n 0, 1) := by decide +kernel
theorem dX12_readWriting_54 : decode cX12_readWriting 54 = .ok (.getfield 126, 3) := by decide +kernel
theorem dX12_readWriting_57 : decode cX12_readWriting 57 = .ok (.iconst (-1), 1) := by decide +kernel
theorem dX12_readWriting_58 : decode cX12_readWriting 58 = .ok (.if_icmp .ne 76, 3) := by decide +kernel
theorem dX12_readWriting_61 : decode cX12_readWriting 61 = .ok (.aload_n 0, 1) := by decide +kernel
theorem dX12_readWriting_62 : decode cX12_readWriting 62 = .ok (.iload_n 1, 1) := by decide +kernel
theorem dX12_readWriting_63 : decode cX12_readWriting 63 = .ok (.iload_n 3, 1) := by decide +kernel
theorem dX12_readWriting_64 : decode cX12_readWriting 64 = .ok (.invokevirtual 258, 3) := by decide +kernel
theorem dX12_readWriting_67 : decode cX12_readWriting 67 = .ok (.ifCond .ne 7, 3) := by decide +kernel
theorem dX12_readWriting_70 : decode cX12_readWriting 70 = .ok (.iload_n 2, 1) := by decide +kernel
theorem dX12_readWriting_71 : decode cX12_readWriting 71 = .ok (.ifCond .eq 7, 3) := by decide +kernel
theorem dX12_readWriting_74 : decode cX12_readWriting 74 = .ok (.iconst 1, 1) := by decide +kernel
theorem dX12_readWriting_75 : decode cX12_readWriting 75 = .ok (.goto 4, 3) := by decide +kernel
theorem dX12_readWriting_78 : decode cX12_readWriting 78 = .ok (.iconst 0, 1) := by decide +kernel
theorem dX12_readWriting_79 : decode cX12_readWriting 79 = .ok (.istore_n 2, 1) := by decide +kernel
theorem dX12_readWriting_80 : decode cX12_readWriting 80 = .ok (.iinc 3 1, 3) := by decide +kernel
theorem dX12_readWriting_83 : decode cX12_readWriting 83 = .ok (.aload_n 0, 1) := by decide +kernel
theorem dX12_readWriting_84 : decode cX12_readWriting 84 = .ok (.getfield 126, 3) := by decide +kernel
theorem dX12_readWriting_87 : decode cX12_readWriting 87 = .ok (.iconst (-1), 1) := by decide +kernel
theorem dX12_readWriting_88 : decode cX12_readWriting 88 = .ok (.if_icmp .ne 21, 3) := by decide +kernel
theorem dX12_readWriting_91 : decode cX12_readWriting 91 = .ok (.aload_n 0, 1) := by decide +kernel
theorem dX12_readWriting_92 : decode cX12_readWriting 92 = .ok (.invokevirtual 138, 3) := by decide +kernel
theorem dX12_readWriting_95 : decode cX12_readWriting 95 = .ok (.bipush 47, 2) := by decide +kernel
theorem dX12_readWriting_97 : decode cX12_readWriting 97 = .ok (.if_icmp .ne 12, 3) := by decide +kernel
theorem dX12_readWriting_100 : decode cX12_readWriting 100 = .ok (.iload_n 3, 1) := by decide +kernel
theorem dX12_readWriting_101 : decode cX12_readWriting 101 = .ok (.iconst 4, 1) := by decide +kernel
theorem dX12_readWriting_102 : decode cX12_readWriting 102 = .ok (.if_icmp .ge 7, 3) := by decide +kernel
theorem dX12_readWriting_105 : decode cX12_readWriting 105 = .ok (.iconst 1, 1) := by decide +kernel
theorem dX12_readWriting_106 : decode cX12_readWriting 106 = .ok (.goto 4, 3) := by decide +kernel
theorem dX12_readWriting_109 : decode cX12_readWriting 109 = .ok (.iconst 0, 1) := by decide +kernel
theorem dX12_readWriting_110 : decode cX12_readWriting 110 = .ok (.istore 4, 2) := by decide +kernel
theorem dX12_readWriting_112 : decode cX12_readWriting 112 = .ok (.aload_n 0, 1) := by decide +kernel
theorem dX12_readWriting_113 : decode cX12_readWriting 113 = .ok (.dup, 1) := by decide +kernel
theorem dX12_readWriting_114 : decode cX12_readWriting 114 = .ok (.getfield 119, 3) := by decide +kernel
theorem dX12_readWriting_117 : decode cX12_readWriting 117 = .ok (.iload 4, 2) := by decide +kernel
theorem dX12_readWriting_119 : decode cX12_readWriting 119 = .ok (.ifCond .eq 7, 3) := by decide +kernel
theorem dX12_readWriting_122 : decode cX12_readWriting 122 = .ok (.iconst 1, 1) := by decide +kernel
theorem dX12_readWriting_123 : decode cX12_readWriting 123 = .ok (.goto 4, 3) := by decide +kernel
theorem dX12_readWriting_126 : decode cX12_readWriting 126 = .ok (.iconst 0, 1) := by decide +kernel
theorem dX12_readWriting_127 : decode cX12_readWriting 127 = .ok (.iadd, 1) := by decide +kernel
theorem dX12_readWriting_128 : decode cX12_readWriting 128 = .ok (.putfield 119, 3) := by decide +kernel
theorem dX12_readWriting_131 : decode cX12_readWriting 131 = .ok (.goto (-83), 3) := by decide +kernel
theorem dX12_readWriting_134 : decode cX12_readWriting 134 = .ok (.aload_n 0, 1) := by decide +kernel
theorem dX12_readWriting_135 : decode cX12_readWriting 135 = .ok (.getfield 126, 3) := by decide +kernel
theorem dX12_readWriting_138 : decode cX12_readWriting 138 = .ok (.iconst (-1), 1) := by decide +kernel
theorem dX12_readWriting_139 : decode cX12_readWriting 139 = .ok (.if_icmp .ne 19, 3) := by decide +kernel
theorem dX12_readWriting_142 : decode cX12_readWriting 142 = .ok (.aload_n 0, 1) := by decide +kernel
theorem dX12_readWriting_143 : decode cX12_readWriting 143 = .ok (.invokevirtual 138, 3) := by decide +kernel
theorem dX12_readWriting_146 : decode cX12_readWriting 146 = .ok (.iconst (-1), 1) := by decide +kernel
theorem dX12_readWriting_147 : decode cX12_readWriting 147 = .ok (.if_icmp .ne 7, 3) := by decide +kernel
theorem dX12_readWriting_150 : decode cX12_readWriting 150 = .ok (.iload_n 2, 1) := by decide +kernel
theorem dX12_readWriting_151 : decode cX12_readWriting 151 = .ok (.ifCond .ne 7, 3) := by decide +kernel
theorem dX12_readWriting_154 : decode cX12_readWriting 154 = .ok (.aload_n 0, 1) := by decide +kernel
theorem dX12_readWriting_155 : decode cX12_readWriting 155 = .ok (.invokevirtual 135, 3) := by decide +kernel
theorem dX12_readWriting_158 : decode cX12_readWriting 158 = .ok (.aload_n 0, 1) := by decide +kernel
theorem dX12_readWriting_159 : decode cX12_readWriting 159 = .ok (.getfield 126, 3) := by decide +kernel
theorem dX12_readWriting_162 : decode cX12_readWriting 162 = .ok (.ireturn, 1) := by decide +kernel
set_option maxRecDepth 20000 in
def kX12_readWriting_0 (g : sk_G) (d ck sk : Nat) (Q : sk_P) : sk_K := o_aload 0 (o_i (0) (o_puti 12 3 (o_aload 0 (o_i (-1) (o_puti 12 4 (o_aload 0 (o_getf 12 25 (o_iload 1 (o_i (0) (o_iastore (o_i (0) (o_istore 2 (sk_B (g, d, ck, sk, xX12_readWriting, Q) 19)))))))))))))
set_option maxRecDepth 20000 in
theorem tX12_readWriting_0 {g : sk_G} {d ck sk : Nat} {Q : sk_P} : sk_S (g, d, ck, sk, xX12_readWriting, Q) 0 (kX12_readWriting_0 g d ck sk Q) := s_aload_n dX12_readWriting_0 rfl (s_iconst dX12_readWriting_1 (s_puti (ci := 12) (j := 3) (C := RX12) (T := TX12) (N := 49) dX12_readWriting_2 rfl (by decide) (by decide) rfl (tyX12_ok 3 (by decide)) qf_X12_119 (s_aload_n dX12_readWriting_5 rfl (s_iconst dX12_readWriting_6 (s_puti (ci := 12) (j := 4) (C := RX12) (T := TX12) (N := 49) dX12_readWriting_7 rfl (by decide) (by decide) rfl (tyX12_ok 4 (by decide)) qf_X12_126 (s_aload_n dX12_readWriting_10 rfl (s_getf (ci := 12) (j := 25) (C := RX12) (T := TX12) (N := 49) dX12_readWriting_11 rfl (by decide) (by decide) qf_X12_55 (s_iload_n dX12_readWriting_14 rfl (s_iconst dX12_readWriting_15 (s_iastore dX12_readWriting_16 (s_iconst dX12_readWriting_17 (s_istore_n dX12_readWriting_18 rfl (by decide : 2 < 5) (sk_id)))))))))))))
set_option maxRecDepth 20000 in
def kX12_readWriting_19 (g : sk_G) (d ck sk : Nat) (Q : sk_P) : sk_K := o_iload 2 (o_i (4) (o_icge (o_i (0) (o_istore 2 (o_i (0) (o_istore 3 (o_i (1) (o_istore 4 (sk_B (g, d, ck, sk, xX12_readWriting, Q) 48))))))) (o_aload 0 (o_getf 12 26 (o_i (4) (o_iload 1 (o_imul (o_iload 2 (o_iadd (o_i (0) (o_iastore (o_iinc 2 (1) (sk_B (g, d, ck, sk, xX12_readWriting, Q) 19)))))))))))))
set_option maxRecDepth 20000 in
theorem tX12_readWriting_19 {g : sk_G} {d ck sk : Nat} {Q : sk_P} : sk_S (g, d, ck, sk, xX12_readWriting, Q) 19 (kX12_readWriting_19 g d ck sk Q) := s_iload_n dX12_readWriting_19 rfl (s_iconst dX12_readWriting_20 (s_icge (tgt := 41) dX12_readWriting_21 (by decide) (s_iconst dX12_readWriting_41 (s_istore_n dX12_readWriting_42 rfl (by decide : 2 < 5) (s_iconst dX12_readWriting_43 (s_istore_n dX12_readWriting_44 rfl (by decide : 3 < 5) (s_iconst dX12_readWriting_45 (s_istore dX12_readWriting_46 (by decide : 4 < 5) (sk_id))))))) (s_aload_n dX12_readWriting_24 rfl (s_getf (ci := 12) (j := 26) (C := RX12) (T := TX12) (N := 49) dX12_readWriting_25 rfl (by decide) (by decide) qf_X12_58 (s_iconst dX12_readWriting_28 (s_iload_n dX12_readWriting_29 rfl (s_imul dX12_readWriting_30 (s_iload_n dX12_readWriting_31 rfl (s_iadd dX12_readWriting_32 (s_iconst dX12_readWriting_33 (s_iastore dX12_readWriting_34 (s_iinc dX12_readWriting_35 (by decide : 2 < 5) (s_goto (tgt := 19) dX12_readWriting_38 (by decide) (sk_id))))))))))))))
set_option maxRecDepth 20000 in
def kX12_readWriting_48 (g : sk_G) (d ck sk : Nat) (Q : sk_P) : sk_K := o_iload 4 (o_ifeq (sk_B (g, d, ck, sk, xX12_readWriting, Q) 134) (o_aload 0 (o_getf 12 4 (o_i (-1) (o_icne (sk_B (g, d, ck, sk, xX12_readWriting, Q) 134) (o_aload 0 (o_iload 1 (o_iload 3 (o_invB (g, d, ck, sk, xX12_readWriting, Q) xX12_readLine 2 12 0 0 (o_ifne (o_i (1) (sk_B (g, d, ck, sk, xX12_readWriting, Q) 79)) (o_iload 2 (o_ifeq (o_i (0) (sk_B (g, d, ck, sk, xX12_readWriting, Q) 79)) (o_i (1) (sk_B (g, d, ck, sk, xX12_readWriting, Q) 79))))))))))))))
set_option maxRecDepth 20000 in
theorem tX12_readWriting_48 {g : sk_G} {d ck sk : Nat} {Q : sk_P} : sk_S (g, d, ck, sk, xX12_readWriting, Q) 48 (kX12_readWriting_48 g d ck sk Q) := s_iload dX12_readWriting_48 (s_ifeq (tgt := 134) dX12_readWriting_50 (by decide) (sk_id) (s_aload_n dX12_readWriting_53 rfl (s_getf (ci := 12) (j := 4) (C := RX12) (T := TX12) (N := 49) dX12_readWriting_54 rfl (by decide) (by decide) qf_X12_126 (s_iconst dX12_readWriting_57 (s_icne (tgt := 134) dX12_readWriting_58 (by decide) (sk_id) (s_aload_n dX12_readWriting_61 rfl (s_iload_n dX12_readWriting_62 rfl (s_iload_n dX12_readWriting_63 rfl (s_invB (w' := (g, d, ck, sk, xX12_readWriting, Q)) (ci := 12) (ck := 0) (sk := 0) (T := TX12) (N := 49) dX12_readWriting_64 m_X12_readLine rfl (by decide) qm_X12_258 qi_X12_readLine qe_X12_readLine rfl (s_ifne (tgt := 74) dX12_readWriting_67 (by decide) (s_iconst dX12_readWriting_74 (s_goto (tgt := 79) dX12_readWriting_75 (by decide) (sk_id))) (s_iload_n dX12_readWriting_70 rfl (s_ifeq (tgt := 78) dX12_readWriting_71 (by decide) (s_iconst dX12_readWriting_78 (sk_id)) (s_iconst dX12_readWriting_74 (s_goto (tgt := 79) dX12_readWriting_75 (by decide) (sk_id)))))))))))))))
set_option maxRecDepth 20000 in
def kX12_readWriting_79 (g : sk_G) (d ck sk : Nat) (Q : sk_P) : sk_K := o_istore 2 (o_iinc 3 (1) (o_aload 0 (o_getf 12 4 (o_i (-1) (o_icne (o_i (0) (sk_B (g, d, ck, sk, xX12_readWriting, Q) 110)) (o_aload 0 (o_invB (g, d, ck, sk, xX12_readWriting, Q) xX12_look 0 12 0 0 (o_i (47) (o_icne (o_i (0) (sk_B (g, d, ck, sk, xX12_readWriting, Q) 110)) (o_iload 3 (o_i (4) (o_icge (o_i (0) (sk_B (g, d, ck, sk, xX12_readWriting, Q) 110)) (o_i (1) (sk_B (g, d, ck, sk, xX12_readWriting, Q) 110))))))))))))))
set_option maxRecDepth 20000 in
theorem tX12_readWriting_79 {g : sk_G} {d ck sk : Nat} {Q : sk_P} : sk_S (g, d, ck, sk, xX12_readWriting, Q) 79 (kX12_readWriting_79 g d ck sk Q) := s_istore_n dX12_readWriting_79 rfl (by decide : 2 < 5) (s_iinc dX12_readWriting_80 (by decide : 3 < 5) (s_aload_n dX12_readWriting_83 rfl (s_getf (ci := 12) (j := 4) (C := RX12) (T := TX12) (N := 49) dX12_readWriting_84 rfl (by decide) (by decide) qf_X12_126 (s_iconst dX12_readWriting_87 (s_icne (tgt := 109) dX12_readWriting_88 (by decide) (s_iconst dX12_readWriting_109 (sk_id)) (s_aload_n dX12_readWriting_91 rfl (s_invB (w' := (g, d, ck, sk, xX12_readWriting, Q)) (ci := 12) (ck := 0) (sk := 0) (T := TX12) (N := 49) dX12_readWriting_92 m_X12_look rfl (by decide) qm_X12_138 qi_X12_look qe_X12_look rfl (s_bipush dX12_readWriting_95 rfl (s_icne (tgt := 109) dX12_readWriting_97 (by decide) (s_iconst dX12_readWriting_109 (sk_id)) (s_iload_n dX12_readWriting_100 rfl (s_iconst dX12_readWriting_101 (s_icge (tgt := 109) dX12_readWriting_102 (by decide) (s_iconst dX12_readWriting_109 (sk_id)) (s_iconst dX12_readWriting_105 (s_goto (tgt := 110) dX12_readWriting_106 (by decide) (sk_id)))))))))))))))
set_option maxRecDepth 20000 in
def kX12_readWriting_110 (g : sk_G) (d ck sk : Nat) (Q : sk_P) : sk_K := o_istore 4 (o_aload 0 (o_dup (o_getf 12 3 (o_iload 4 (o_ifeq (o_i (0) (o_iadd (o_puti 12 3 (sk_B (g, d, ck, sk, xX12_readWriting, Q) 48)))) (o_i (1) (o_iadd (o_puti 12 3 (sk_B (g, d, ck, sk, xX12_readWriting, Q) 48)))))))))
set_option maxRecDepth 20000 in
theorem tX12_readWriting_110 {g : sk_G} {d ck sk : Nat} {Q : sk_P} : sk_S (g, d, ck, sk, xX12_readWriting, Q) 110 (kX12_readWriting_110 g d ck sk Q) := s_istore dX12_readWriting_110 (by decide : 4 < 5) (s_aload_n dX12_readWriting_112 rfl (s_dup dX12_readWriting_113 (s_getf (ci := 12) (j := 3) (C := RX12) (T := TX12) (N := 49) dX12_readWriting_114 rfl (by decide) (by decide) qf_X12_119 (s_iload dX12_readWriting_117 (s_ifeq (tgt := 126) dX12_readWriting_119 (by decide) (s_iconst dX12_readWriting_126 (s_iadd dX12_readWriting_127 (s_puti (ci := 12) (j := 3) (C := RX12) (T := TX12) (N := 49) dX12_readWriting_128 rfl (by decide) (by decide) rfl (tyX12_ok 3 (by decide)) qf_X12_119 (s_goto (tgt := 48) dX12_readWriting_131 (by decide) (sk_id))))) (s_iconst dX12_readWriting_122 (s_goto (tgt := 127) dX12_readWriting_123 (by decide) (s_iadd dX12_readWriting_127 (s_puti (ci := 12) (j := 3) (C := RX12) (T := TX12) (N := 49) dX12_readWriting_128 rfl (by decide) (by decide) rfl (tyX12_ok 3 (by decide)) qf_X12_119 (s_goto (tgt := 48) dX12_readWriting_131 (by decide) (sk_id)))))))))))
set_option maxRecDepth 20000 in
def kX12_readWriting_134 (g : sk_G) (d ck sk : Nat) (Q : sk_P) : sk_K := o_aload 0 (o_getf 12 4 (o_i (-1) (o_icne (o_aload 0 (o_getf 12 4 (o_iret (g, d, ck, sk, xX12_readWriting, Q)))) (o_aload 0 (o_invB (g, d, ck, sk, xX12_readWriting, Q) xX12_look 0 12 0 0 (o_i (-1) (o_icne (o_aload 0 (o_invB (g, d, ck, sk, xX12_readWriting, Q) xX12_bad 0 12 0 0 (o_aload 0 (o_getf 12 4 (o_iret (g, d, ck, sk, xX12_readWriting, Q)))))) (o_iload 2 (o_ifne (o_aload 0 (o_getf 12 4 (o_iret (g, d, ck, sk, xX12_readWriting, Q)))) (o_aload 0 (o_invB (g, d, ck, sk, xX12_readWriting, Q) xX12_bad 0 12 0 0 (o_aload 0 (o_getf 12 4 (o_iret (g, d, ck, sk, xX12_readWriting, Q)))))))))))))))
set_option maxRecDepth 20000 in
theorem tX12_readWriting_134 {g : sk_G} {d ck sk : Nat} {Q : sk_P} : sk_S (g, d, ck, sk, xX12_readWriting, Q) 134 (kX12_readWriting_134 g d ck sk Q) := s_aload_n dX12_readWriting_134 rfl (s_getf (ci := 12) (j := 4) (C := RX12) (T := TX12) (N := 49) dX12_readWriting_135 rfl (by decide) (by decide) qf_X12_126 (s_iconst dX12_readWriting_138 (s_icne (tgt := 158) dX12_readWriting_139 (by decide) (s_aload_n dX12_readWriting_158 rfl (s_getf (ci := 12) (j := 4) (C := RX12) (T := TX12) (N := 49) dX12_readWriting_159 rfl (by decide) (by decide) qf_X12_126 (s_iret dX12_readWriting_162 rfl))) (s_aload_n dX12_readWriting_142 rfl (s_invB (w' := (g, d, ck, sk, xX12_readWriting, Q)) (ci := 12) (ck := 0) (sk := 0) (T := TX12) (N := 49) dX12_readWriting_143 m_X12_look rfl (by decide) qm_X12_138 qi_X12_look qe_X12_look rfl (s_iconst dX12_readWriting_146 (s_icne (tgt := 154) dX12_readWriting_147 (by decide) (s_aload_n dX12_readWriting_154 rfl (s_invB (w' := (g, d, ck, sk, xX12_readWriting, Q)) (ci := 12) (ck := 0) (sk := 0) (T := TX12) (N := 49) dX12_readWriting_155 m_X12_bad rfl (by decide) qm_X12_135 qi_X12_bad qe_X12_bad rfl (s_aload_n dX12_readWriting_158 rfl (s_getf (ci := 12) (j := 4) (C := RX12) (T := TX12) (N := 49) dX12_readWriting_159 rfl (by decide) (by decide) qf_X12_126 (s_iret dX12_readWriting_162 rfl))))) (s_iload_n dX12_readWriting_150 rfl (s_ifne (tgt := 158) dX12_readWriting_151 (by decide) (s_aload_n dX12_readWriting_158 rfl (s_getf (ci := 12) (j := 4) (C := RX12) (T := TX12) (N := 49) dX12_readWriting_159 rfl (by decide) (by decide) qf_X12_126 (s_iret dX12_readWriting_162 rfl))) (s_aload_n dX12_readWriting_154 rfl (s_invB (w' := (g, d, ck, sk, xX12_readWriting, Q)) (ci := 12) (ck := 0) (sk := 0) (T := TX12) (N := 49) dX12_readWriting_155 m_X12_bad rfl (by decide) qm_X12_135 qi_X12_bad qe_X12_bad rfl (s_aload_n dX12_readWriting_158 rfl (s_getf (ci := 12) (j := 4) (C := RX12) (T := TX12) (N := 49) dX12_readWriting_159 rfl (by decide) (by decide) qf_X12_126 (s_iret dX12_readWriting_162 rfl))))))))))))))
theorem dX12_readLine_0 : decode cX12_readLine 0 = .ok (.iconst 0, 1) := by decide +kernel
theorem dX12_readLine_1 : decode cX12_readLine 1 = .ok (.istore_n 3, 1) := by decide +kernel
theorem dX12_readLine_2 : decode cX12_readLine 2 = .ok (.iconst 0, 1) := by decide +kernel
theorem dX12_readLine_3 : decode cX12_readLine 3 = .ok (.istore 4, 2) := by decide +kernel
theorem dX12_readLine_5 : decode cX12_readLine 5 = .ok (.iconst 1, 1) := by decide +kernel
theorem dX12_readLine_6 : decode cX12_readLine 6 = .ok (.istore 5, 2) := by decide +kernel
theorem dX12_readLine_8 : decode cX12_readLine 8 = .ok (.iload 5, 2) := by decide +kernel
theorem dX12_readLine_10 : decode cX12_readLine 10 = .ok (.ifCond .eq 160, 3) := by decide +kernel
theorem dX12_readLine_13 : decode cX12_readLine 13 = .ok (.aload_n 0, 1) := by decide +kernel
theorem dX12_readLine_14 : decode cX12_readLine 14 = .ok (.invokevirtual 138, 3) := by decide +kernel
theorem dX12_readLine_17 : decode cX12_readLine 17 = .ok (.istore 6, 2) := by decide +kernel
theorem dX12_readLine_19 : decode cX12_readLine 19 = .ok (.iload 6, 2) := by decide +kernel
theorem dX12_readLine_21 : decode cX12_readLine 21 = .ok (.iconst (-1), 1) := by decide +kernel
theorem dX12_readLine_22 : decode cX12_readLine 22 = .ok (.if_icmp .eq 33, 3) := by decide +kernel
theorem dX12_readLine_25 : decode cX12_readLine 25 = .ok (.iload 6, 2) := by decide +kernel
theorem dX12_readLine_27 : decode cX12_readLine 27 = .ok (.invokestatic 255, 3) := by decide +kernel
theorem dX12_readLine_30 : decode cX12_readLine 30 = .ok (.ifCond .eq 25, 3) := by decide +kernel
theorem dX12_readLine_33 : decode cX12_readLine 33 = .ok (.iload 4, 2) := by decide +kernel
theorem dX12_readLine_35 : decode cX12_readLine 35 = .ok (.bipush 8, 2) := by decide +kernel
theorem dX12_readLine_37 : decode cX12_readLine 37 = .ok (.if_icmp .ge 18, 3) := by decide +kernel
theorem dX12_readLine_40 : decode cX12_readLine 40 = .ok (.aload_n 0, 1) := by decide +kernel
theorem dX12_readLine_41 : decode cX12_readLine 41 = .ok (.getfield 55, 3) := by decide +kernel
theorem dX12_readLine_44 : decode cX12_readLine 44 = .ok (.iload_n 1, 1) := by decide +kernel
theorem dX12_readLine_45 : decode cX12_readLine 45 = .ok (.iaload, 1) := by decide +kernel
theorem dX12_readLine_46 : decode cX12_readLine 46 = .ok (.bipush 16, 2) := by decide +kernel
theorem dX12_readLine_48 : decode cX12_readLine 48 = .ok (.if_icmp .ge 7, 3) := by decide +kernel
theorem dX12_readLine_51 : decode cX12_readLine 51 = .ok (.iconst 1, 1) := by decide +kernel
theorem dX12_readLine_52 : decode cX12_readLine 52 = .ok (.goto 4, 3) := by decide +kernel
theorem dX12_readLine_55 : decode cX12_readLine 55 = .ok (.iconst 0, 1) := by decide +kernel
theorem dX12_readLine_56 : decode cX12_readLine 56 = .ok (.istore 7, 2) := by decide +kernel
theorem dX12_readLine_58 : decode cX12_readLine 58 = .ok (.iload 7, 2) := by decide +kernel
theorem dX12_readLine_60 : decode cX12_readLine 60 = .ok (.ifCond .eq 103, 3) := by decide +kernel
theorem dX12_readLine_63 : decode cX12_readLine 63 = .ok (.iconst 3, 1) := by decide +kernel
theorem dX12_readLine_64 : decode cX12_readLine 64 = .ok (.bipush 16, 2) := by decide +kernel
theorem dX12_readLine_66 : decode cX12_readLine 66 = .ok (.iload_n 1, 1) := by decide +kernel
theorem dX12_readLine_67 : decode cX12_readLine 67 = .ok (.imul, 1) := by decide +kernel
theorem dX12_readLine_68 : decode cX12_readLine 68 = .ok (.aload_n 0, 1) := by decide +kernel
theorem dX12_readLine_69 : decode cX12_readLine 69 = .ok (.getfield 55, 3) := by decide +kernel
theorem dX12_readLine_72 : decode cX12_readLine 72 = .ok (.iload_n 1, 1) := by decide +kernel
theorem dX12_readLine_73 : decode cX12_readLine 73 = .ok (.iaload, 1) := by decide +kernel
theorem dX12_readLine_74 : decode cX12_readLine 74 = .ok (.iadd, 1) := by decide +kernel
theorem dX12_readLine_75 : decode cX12_readLine 75 = .ok (.imul, 1) := by decide +kernel
theorem dX12_readLine_76 : decode cX12_readLine 76 = .ok (.istore 8, 2) := by decide +kernel
theorem dX12_readLine_78 : decode cX12_readLine 78 = .ok (.aload_n 0, 1) := by decide +kernel
theorem dX12_readLine_79 : decode cX12_readLine 79 = .ok (.getfield 52, 3) := by decide +kernel
theorem dX12_readLine_82 : decode cX12_readLine 82 = .ok (.iload 8, 2) := by decide +kernel
theorem dX12_readLine_84 : decode cX12_readLine 84 = .ok (.iload 6, 2) := by decide +kernel
theorem dX12_readLine_86 : decode cX12_readLine 86 = .ok (.bipush 46, 2) := by decide +kernel
theorem dX12_readLine_88 : decode cX12_readLine 88 = .ok (.if_icmp .ne 8, 3) := by decide +kernel
theorem dX12_readLine_91 : decode cX12_readLine 91 = .ok (.bipush 26, 2) := by decide +kernel
theorem dX12_readLine_93 : decode cX12_readLine 93 = .ok (.goto 8, 3) := by decide +kernel
theorem dX12_readLine_96 : decode cX12_readLine 96 = .ok (.iload 6, 2) := by decide +kernel
theorem dX12_readLine_98 : decode cX12_readLine 98 = .ok (.bipush 97, 2) := by decide +kernel
theorem dX12_readLine_100 : decode cX12_readLine 100 = .ok (.isub, 1) := by decide +kernel
theorem dX12_readLine_101 : decode cX12_readLine 101 = .ok (.iastore, 1) := by decide +kernel
theorem dX12_readLine_102 : decode cX12_readLine 102 = .ok (.aload_n 0, 1) := by decide +kernel
theorem dX12_readLine_103 : decode cX12_readLine 103 = .ok (.getfield 52, 3) := by decide +kernel
theorem dX12_readLine_106 : decode cX12_readLine 106 = .ok (.iload 8, 2) := by decide +kernel
theorem dX12_readLine_108 : decode cX12_readLine 108 = .ok (.iconst 1, 1) := by decide +kernel
theorem dX12_readLine_109 : decode cX12_readLine 109 = .ok (.iadd, 1) := by decide +kernel
theorem dX12_readLine_110 : decode cX12_readLine 110 = .ok (.iload_n 2, 1) := by decide +kernel
theorem dX12_readLine_111 : decode cX12_readLine 111 = .ok (.iastore, 1) := by decide +kernel
theorem dX12_readLine_112 : decode cX12_readLine 112 = .ok (.aload_n 0, 1) := by decide +kernel
theorem dX12_readLine_113 : decode cX12_readLine 113 = .ok (.getfield 52, 3) := by decide +kernel
theorem dX12_readLine_116 : decode cX12_readLine 116 = .ok (.iload 8, 2) := by decide +kernel
theorem dX12_readLine_118 : decode cX12_readLine 118 = .ok (.iconst 2, 1) := by decide +kernel
theorem dX12_readLine_119 : decode cX12_readLine 119 = .ok (.iadd, 1) := by decide +kernel
theorem dX12_readLine_120 : decode cX12_readLine 120 = .ok (.iload 4, 2) := by decide +kernel
theorem dX12_readLine_122 : decode cX12_readLine 122 = .ok (.iastore, 1) := by decide +kernel
theorem dX12_readLine_123 : decode cX12_readLine 123 = .ok (.iload_n 3, 1) := by decide +kernel
theorem dX12_readLine_124 : decode cX12_readLine 124 = .ok (.ifCond .ne 10, 3) := by decide +kernel
theorem dX12_readLine_127 : decode cX12_readLine 127 = .ok (.iload 6, 2) := by decide +kernel
theorem dX12_readLine_129 : decode cX12_readLine 129 = .ok (.bipush 46, 2) := by decide +kernel
theorem dX12_readLine_131 : decode cX12_readLine 131 = .ok (.if_icmp .eq 7, 3) := by decide +kernel
theorem dX12_readLine_134 : decode cX12_readLine 134 = .ok (.iconst 1, 1) := by decide +kernel
theorem dX12_readLine_135 : decode cX12_readLine 135 = .ok (.goto 4, 3) := by decide +kernel
theorem dX12_readLine_138 : decode cX12_readLine 138 = .ok (.iconst 0, 1) := by decide +kernel
theorem dX12_readLine_139 : decode cX12_readLine 139 = .ok (.istore_n 3, 1) := by decide +kernel
theorem dX12_readLine_140 : decode cX12_readLine 140 = .ok (.aload_n 0, 1) := by decide +kernel
theorem dX12_readLine_141 : decode cX12_readLine 141 = .ok (.getfield 55, 3) := by decide +kernel
theorem dX12_readLine_144 : decode cX12_readLine 144 = .ok (.iload_n 1, 1) := by decide +kernel
theorem dX12_readLine_145 : decode cX12_readLine 145 = .ok (.dup2, 1) := by decide +kernel
theorem dX12_readLine_146 : decode cX12_readLine 146 = .ok (.iaload, 1) := by decide +kernel
theorem dX12_readLine_147 : decode cX12_readLine 147 = .ok (.iconst 1, 1) := by decide +kernel
theorem dX12_readLine_148 : decode cX12_readLine 148 = .ok (.iadd, 1) := by decide +kernel
theorem dX12_readLine_149 : decode cX12_readLine 149 = .ok (.iastore, 1) := by decide +kernel
theorem dX12_readLine_150 : decode cX12_readLine 150 = .ok (.iinc 4 1, 3) := by decide +kernel
theorem dX12_readLine_153 : decode cX12_readLine 153 = .ok (.aload_n 0, 1) := by decide +kernel
theorem dX12_readLine_154 : decode cX12_readLine 154 = .ok (.dup, 1) := by decide +kernel
theorem dX12_readLine_155 : decode cX12_readLine 155 = .ok (.getfield 119, 3) := by decide +kernel
theorem dX12_readLine_158 : decode cX12_readLine 158 = .ok (.iconst 1, 1) := by decide +kernel
theorem dX12_readLine_159 : decode cX12_readLine 159 = .ok (.iadd, 1) := by decide +kernel
theorem dX12_readLine_160 : decode cX12_readLine 160 = .ok (.putfield 119, 3) := by decide +kernel
theorem dX12_readLine_163 : decode cX12_readLine 163 = .ok (.iload 7, 2) := by decide +kernel
theorem dX12_readLine_165 : decode cX12_readLine 165 = .ok (.istore 5, 2) := by decide +kernel
theorem dX12_readLine_167 : decode cX12_readLine 167 = .ok (.goto (-159), 3) := by decide +kernel
theorem dX12_readLine_170 : decode cX12_readLine 170 = .ok (.aload_n 0, 1) := by decide +kernel
theorem dX12_readLine_171 : decode cX12_readLine 171 = .ok (.getfield 58, 3) := by decide +kernel
theorem dX12_readLine_174 : decode cX12_readLine 174 = .ok (.iconst 4, 1) := by decide +kernel
theorem dX12_readLine_175 : decode cX12_readLine 175 = .ok (.iload_n 1, 1) := by decide +kernel
theorem dX12_readLine_176 : decode cX12_readLine 176 = .ok (.imul, 1) := by decide +kernel
theorem dX12_readLine_177 : decode cX12_readLine 177 = .ok (.iload_n 2, 1) := by decide +kernel
theorem dX12_readLine_178 : decode cX12_readLine 178 = .ok (.iadd, 1) := by decide +kernel
theorem dX12_readLine_179 : decode cX12_readLine 179 = .ok (.iload 4, 2) := by decide +kernel
theorem dX12_readLine_181 : decode cX12_readLine 181 = .ok (.iastore, 1) := by decide +kernel
theorem dX12_readLine_182 : decode cX12_readLine 182 = .ok (.aload_n 0, 1) := by decide +kernel
theorem dX12_readLine_183 : decode cX12_readLine 183 = .ok (.invokevirtual 138, 3) := by decide +kernel
theorem dX12_readLine_186 : decode cX12_readLine 186 = .ok (.istore 6, 2) := by decide +kernel
theorem dX12_readLine_188 : decode cX12_readLine 188 = .ok (.iload 4, 2) := by decide +kernel
theorem dX12_readLine_190 : decode cX12_readLine 190 = .ok (.ifCond .eq 16, 3) := by decide +kernel
theorem dX12_readLine_193 : decode cX12_readLine 193 = .ok (.iload 6, 2) := by decide +kernel
theorem dX12_readLine_195 : decode cX12_readLine 195 = .ok (.iconst (-1), 1) := by decide +kernel
theorem dX12_readLine_196 : decode cX12_readLine 196 = .ok (.if_icmp .eq 14, 3) := by decide +kernel
theorem dX12_readLine_199 : decode cX12_readLine 199 = .ok (.iload 6, 2) := by decide +kernel
theorem dX12_readLine_201 : decode cX12_readLine 201 = .ok (.bipush 47, 2) := by decide +kernel
theorem dX12_readLine_203 : decode cX12_readLine 203 = .ok (.if_icmp .eq 7, 3) := by decide +kernel
theorem dX12_readLine_206 : decode cX12_readLine 206 = .ok (.aload_n 0, 1) := by decide +kernel
theorem dX12_readLine_207 : decode cX12_readLine 207 = .ok (.invokevirtual 135, 3) := by decide +kernel
theorem dX12_readLine_210 : decode cX12_readLine 210 = .ok (.iload_n 3, 1) := by decide +kernel
theorem dX12_readLine_211 : decode cX12_readLine 211 = .ok (.ireturn, 1) := by decide +kernel
def kX12_readLine_0 (g : sk_G) (d ck sk : Nat) (Q : sk_P) : sk_K := o_i (0) (o_istore 3 (o_i (0) (o_istore 4 (o_i (1) (o_istore 5 (sk_B (g, d, ck, sk, xX12_readLine, Q) 8))))))
theorem tX12_readLine_0 {g : sk_G} {d ck sk : Nat} {Q : sk_P} : sk_S (g, d, ck, sk, xX12_readLine, Q) 0 (kX12_readLine_0 g d ck sk Q) := s_iconst dX12_readLine_0 (s_istore_n dX12_readLine_1 rfl (by decide : 3 < 9) (s_iconst dX12_readLine_2 (s_istore dX12_readLine_3 (by decide : 4 < 9) (s_iconst dX12_readLine_5 (s_istore dX12_readLine_6 (by decide : 5 < 9) (sk_id))))))
set_option maxRecDepth 20000 in
def kX12_readLine_8 (g : sk_G) (d ck sk : Nat) (Q : sk_P) : sk_K := o_iload 5 (o_ifeq (o_aload 0 (o_getf 12 26 (o_i (4) (o_iload 1 (o_imul (o_iload 2 (o_iadd (o_iload 4 (o_iastore (o_aload 0 (o_invB (g, d, ck, sk, xX12_readLine, Q) xX12_look 0 12 0 0 (o_istore 6 (o_iload 4 (o_ifeq (o_aload 0 (o_invB (g, d, ck, sk, xX12_readLine, Q) xX12_bad 0 12 0 0 (o_iload 3 (o_zret (g, d, ck, sk, xX12_readLine, Q))))) (o_iload 6 (o_i (-1) (o_iceq (o_iload 3 (o_zret (g, d, ck, sk, xX12_readLine, Q))) (o_iload 6 (o_i (47) (o_iceq (o_iload 3 (o_zret (g, d, ck, sk, xX12_readLine, Q))) (o_aload 0 (o_invB (g, d, ck, sk, xX12_readLine, Q) xX12_bad 0 12 0 0 (o_iload 3 (o_zret (g, d, ck, sk, xX12_readLine, Q))))))))))))))))))))))))) (o_aload 0 (o_invB (g, d, ck, sk, xX12_readLine, Q) xX12_look 0 12 0 0 (o_istore 6 (o_iload 6 (o_i (-1) (o_iceq (o_i (0) (sk_B (g, d, ck, sk, xX12_readLine, Q) 56)) (o_iload 6 (o_stcB (g, d, ck, sk, xX12_readLine, Q) xX12_isInk 1 0 0 (o_ifeq (o_i (0) (sk_B (g, d, ck, sk, xX12_readLine, Q) 56)) (o_iload 4 (o_i (8) (o_icge (o_i (0) (sk_B (g, d, ck, sk, xX12_readLine, Q) 56)) (o_aload 0 (o_getf 12 25 (o_iload 1 (o_iaload (o_i (16) (o_icge (o_i (0) (sk_B (g, d, ck, sk, xX12_readLine, Q) 56)) (o_i (1) (sk_B (g, d, ck, sk, xX12_readLine, Q) 56)))))))))))))))))))))
set_option maxRecDepth 20000 in
theorem tX12_readLine_8 {g : sk_G} {d ck sk : Nat} {Q : sk_P} : sk_S (g, d, ck, sk, xX12_readLine, Q) 8 (kX12_readLine_8 g d ck sk Q) := s_iload dX12_readLine_8 (s_ifeq (tgt := 170) dX12_readLine_10 (by decide) (s_aload_n dX12_readLine_170 rfl (s_getf (ci := 12) (j := 26) (C := RX12) (T := TX12) (N := 49) dX12_readLine_171 rfl (by decide) (by decide) qf_X12_58 (s_iconst dX12_readLine_174 (s_iload_n dX12_readLine_175 rfl (s_imul dX12_readLine_176 (s_iload_n dX12_readLine_177 rfl (s_iadd dX12_readLine_178 (s_iload dX12_readLine_179 (s_iastore dX12_readLine_181 (s_aload_n dX12_readLine_182 rfl (s_invB (w' := (g, d, ck, sk, xX12_readLine, Q)) (ci := 12) (ck := 0) (sk := 0) (T := TX12) (N := 49) dX12_readLine_183 m_X12_look rfl (by decide) qm_X12_138 qi_X12_look qe_X12_look rfl (s_istore dX12_readLine_186 (by decide : 6 < 9) (s_iload dX12_readLine_188 (s_ifeq (tgt := 206) dX12_readLine_190 (by decide) (s_aload_n dX12_readLine_206 rfl (s_invB (w' := (g, d, ck, sk, xX12_readLine, Q)) (ci := 12) (ck := 0) (sk := 0) (T := TX12) (N := 49) dX12_readLine_207 m_X12_bad rfl (by decide) qm_X12_135 qi_X12_bad qe_X12_bad rfl (s_iload_n dX12_readLine_210 rfl (s_zret dX12_readLine_211 rfl)))) (s_iload dX12_readLine_193 (s_iconst dX12_readLine_195 (s_iceq (tgt := 210) dX12_readLine_196 (by decide) (s_iload_n dX12_readLine_210 rfl (s_zret dX12_readLine_211 rfl)) (s_iload dX12_readLine_199 (s_bipush dX12_readLine_201 rfl (s_iceq (tgt := 210) dX12_readLine_203 (by decide) (s_iload_n dX12_readLine_210 rfl (s_zret dX12_readLine_211 rfl)) (s_aload_n dX12_readLine_206 rfl (s_invB (w' := (g, d, ck, sk, xX12_readLine, Q)) (ci := 12) (ck := 0) (sk := 0) (T := TX12) (N := 49) dX12_readLine_207 m_X12_bad rfl (by decide) qm_X12_135 qi_X12_bad qe_X12_bad rfl (s_iload_n dX12_readLine_210 rfl (s_zret dX12_readLine_211 rfl)))))))))))))))))))))))) (s_aload_n dX12_readLine_13 rfl (s_invB (w' := (g, d, ck, sk, xX12_readLine, Q)) (ci := 12) (ck := 0) (sk := 0) (T := TX12) (N := 49) dX12_readLine_14 m_X12_look rfl (by decide) qm_X12_138 qi_X12_look qe_X12_look rfl (s_istore dX12_readLine_17 (by decide : 6 < 9) (s_iload dX12_readLine_19 (s_iconst dX12_readLine_21 (s_iceq (tgt := 55) dX12_readLine_22 (by decide) (s_iconst dX12_readLine_55 (sk_id)) (s_iload dX12_readLine_25 (s_stcB (w' := (g, d, ck, sk, xX12_readLine, Q)) (ck := 0) (sk := 0) dX12_readLine_27 m_X12_isInk qm_X12_255 qs_X12_isInk rfl (s_ifeq (tgt := 55) dX12_readLine_30 (by decide) (s_iconst dX12_readLine_55 (sk_id)) (s_iload dX12_readLine_33 (s_bipush dX12_readLine_35 rfl (s_icge (tgt := 55) dX12_readLine_37 (by decide) (s_iconst dX12_readLine_55 (sk_id)) (s_aload_n dX12_readLine_40 rfl (s_getf (ci := 12) (j := 25) (C := RX12) (T := TX12) (N := 49) dX12_readLine_41 rfl (by decide) (by decide) qf_X12_55 (s_iload_n dX12_readLine_44 rfl (s_iaload dX12_readLine_45 (s_bipush dX12_readLine_46 rfl (s_icge (tgt := 55) dX12_readLine_48 (by decide) (s_iconst dX12_readLine_55 (sk_id)) (s_iconst dX12_readLine_51 (s_goto (tgt := 56) dX12_readLine_52 (by decide) (sk_id))))))))))))))))))))))
set_option maxRecDepth 20000 in
def kX12_readLine_56 (g : sk_G) (d ck sk : Nat) (Q : sk_P) : sk_K := o_istore 7 (o_iload 7 (o_ifeq (o_iload 7 (o_istore 5 (sk_B (g, d, ck, sk, xX12_readLine, Q) 8))) (o_i (3) (o_i (16) (o_iload 1 (o_imul (o_aload 0 (o_getf 12 25 (o_iload 1 (o_iaload (o_iadd (o_imul (o_istore 8 (o_aload 0 (o_getf 12 24 (o_iload 8 (o_iload 6 (o_i (46) (o_icne (o_iload 6 (o_i (97) (o_isub (sk_B (g, d, ck, sk, xX12_readLine, Q) 101)))) (o_i (26) (sk_B (g, d, ck, sk, xX12_readLine, Q) 101)))))))))))))))))))))
set_option maxRecDepth 20000 in
theorem tX12_readLine_56 {g : sk_G} {d ck sk : Nat} {Q : sk_P} : sk_S (g, d, ck, sk, xX12_readLine, Q) 56 (kX12_readLine_56 g d ck sk Q) := s_istore dX12_readLine_56 (by decide : 7 < 9) (s_iload dX12_readLine_58 (s_ifeq (tgt := 163) dX12_readLine_60 (by decide) (s_iload dX12_readLine_163 (s_istore dX12_readLine_165 (by decide : 5 < 9) (s_goto (tgt := 8) dX12_readLine_167 (by decide) (sk_id)))) (s_iconst dX12_readLine_63 (s_bipush dX12_readLine_64 rfl (s_iload_n dX12_readLine_66 rfl (s_imul dX12_readLine_67 (s_aload_n dX12_readLine_68 rfl (s_getf (ci := 12) (j := 25) (C := RX12) (T := TX12) (N := 49) dX12_readLine_69 rfl (by decide) (by decide) qf_X12_55 (s_iload_n dX12_readLine_72 rfl (s_iaload dX12_readLine_73 (s_iadd dX12_readLine_74 (s_imul dX12_readLine_75 (s_istore dX12_readLine_76 (by decide : 8 < 9) (s_aload_n dX12_readLine_78 rfl (s_getf (ci := 12) (j := 24) (C := RX12) (T := TX12) (N := 49) dX12_readLine_79 rfl (by decide) (by decide) qf_X12_52 (s_iload dX12_readLine_82 (s_iload dX12_readLine_84 (s_bipush dX12_readLine_86 rfl (s_icne (tgt := 96) dX12_readLine_88 (by decide) (s_iload dX12_readLine_96 (s_bipush dX12_readLine_98 rfl (s_isub dX12_readLine_100 (sk_id)))) (s_bipush dX12_readLine_91 rfl (s_goto (tgt := 101) dX12_readLine_93 (by decide) (sk_id))))))))))))))))))))))
set_option maxRecDepth 20000 in
def kX12_readLine_101 (g : sk_G) (d ck sk : Nat) (Q : sk_P) : sk_K := o_iastore (o_aload 0 (o_getf 12 24 (o_iload 8 (o_i (1) (o_iadd (o_iload 2 (o_iastore (o_aload 0 (o_getf 12 24 (o_iload 8 (o_i (2) (o_iadd (o_iload 4 (o_iastore (o_iload 3 (o_ifne (o_i (1) (sk_B (g, d, ck, sk, xX12_readLine, Q) 139)) (o_iload 6 (o_i (46) (o_iceq (o_i (0) (sk_B (g, d, ck, sk, xX12_readLine, Q) 139)) (o_i (1) (sk_B (g, d, ck, sk, xX12_readLine, Q) 139)))))))))))))))))))))
set_option maxRecDepth 20000 in
theorem tX12_readLine_101 {g : sk_G} {d ck sk : Nat} {Q : sk_P} : sk_S (g, d, ck, sk, xX12_readLine, Q) 101 (kX12_readLine_101 g d ck sk Q) := s_iastore dX12_readLine_101 (s_aload_n dX12_readLine_102 rfl (s_getf (ci := 12) (j := 24) (C := RX12) (T := TX12) (N := 49) dX12_readLine_103 rfl (by decide) (by decide) qf_X12_52 (s_iload dX12_readLine_106 (s_iconst dX12_readLine_108 (s_iadd dX12_readLine_109 (s_iload_n dX12_readLine_110 rfl (s_iastore dX12_readLine_111 (s_aload_n dX12_readLine_112 rfl (s_getf (ci := 12) (j := 24) (C := RX12) (T := TX12) (N := 49) dX12_readLine_113 rfl (by decide) (by decide) qf_X12_52 (s_iload dX12_readLine_116 (s_iconst dX12_readLine_118 (s_iadd dX12_readLine_119 (s_iload dX12_readLine_120 (s_iastore dX12_readLine_122 (s_iload_n dX12_readLine_123 rfl (s_ifne (tgt := 134) dX12_readLine_124 (by decide) (s_iconst dX12_readLine_134 (s_goto (tgt := 139) dX12_readLine_135 (by decide) (sk_id))) (s_iload dX12_readLine_127 (s_bipush dX12_readLine_129 rfl (s_iceq (tgt := 138) dX12_readLine_131 (by decide) (s_iconst dX12_readLine_138 (sk_id)) (s_iconst dX12_readLine_134 (s_goto (tgt := 139) dX12_readLine_135 (by decide) (sk_id))))))))))))))))))))))
set_option maxRecDepth 20000 in
def kX12_readLine_139 (g : sk_G) (d ck sk : Nat) (Q : sk_P) : sk_K := o_istore 3 (o_aload 0 (o_getf 12 25 (o_iload 1 (o_dup2 (o_iaload (o_i (1) (o_iadd (o_iastore (o_iinc 4 (1) (o_aload 0 (o_dup (o_getf 12 3 (o_i (1) (o_iadd (o_puti 12 3 (o_iload 7 (o_istore 5 (sk_B (g, d, ck, sk, xX12_readLine, Q) 8))))))))))))))))))
set_option maxRecDepth 20000 in
theorem tX12_readLine_139 {g : sk_G} {d ck sk : Nat} {Q : sk_P} : sk_S (g, d, ck, sk, xX12_readLine, Q) 139 (kX12_readLine_139 g d ck sk Q) := s_istore_n dX12_readLine_139 rfl (by decide : 3 < 9) (s_aload_n dX12_readLine_140 rfl (s_getf (ci := 12) (j := 25) (C := RX12) (T := TX12) (N := 49) dX12_readLine_141 rfl (by decide) (by decide) qf_X12_55 (s_iload_n dX12_readLine_144 rfl (s_dup2 dX12_readLine_145 (s_iaload dX12_readLine_146 (s_iconst dX12_readLine_147 (s_iadd dX12_readLine_148 (s_iastore dX12_readLine_149 (s_iinc dX12_readLine_150 (by decide : 4 < 9) (s_aload_n dX12_readLine_153 rfl (s_dup dX12_readLine_154 (s_getf (ci := 12) (j := 3) (C := RX12) (T := TX12) (N := 49) dX12_readLine_155 rfl (by decide) (by decide) qf_X12_119 (s_iconst dX12_readLine_158 (s_iadd dX12_readLine_159 (s_puti (ci := 12) (j := 3) (C := RX12) (T := TX12) (N := 49) dX12_readLine_160 rfl (by decide) (by decide) rfl (tyX12_ok 3 (by decide)) qf_X12_119 (s_iload dX12_readLine_163 (s_istore dX12_readLine_165 (by decide : 5 < 9) (s_goto (tgt := 8) dX12_readLine_167 (by decide) (sk_id)))))))))))))))))))
theorem dX12_isInk_0 : decode cX12_isInk 0 = .ok (.iload_n 0, 1) := by decide +kernel
theorem dX12_isInk_1 : decode cX12_isInk 1 = .ok (.bipush 97, 2) := by decide +kernel
theorem dX12_isInk_3 : decode cX12_isInk 3 = .ok (.if_icmp .lt 9, 3) := by decide +kernel
theorem dX12_isInk_6 : decode cX12_isInk 6 = .ok (.iload_n 0, 1) := by decide +kernel
theorem dX12_isInk_7 : decode cX12_isInk 7 = .ok (.bipush 122, 2) := by decide +kernel
theorem dX12_isInk_9 : decode cX12_isInk 9 = .ok (.if_icmp .le 9, 3) := by decide +kernel
theorem dX12_isInk_12 : decode cX12_isInk 12 = .ok (.iload_n 0, 1) := by decide +kernel
theorem dX12_isInk_13 : decode cX12_isInk 13 = .ok (.bipush 46, 2) := by decide +kernel
theorem dX12_isInk_15 : decode cX12_isInk 15 = .ok (.if_icmp .ne 7, 3) := by decide +kernel
theorem dX12_isInk_18 : decode cX12_isInk 18 = .ok (.iconst 1, 1) := by decide +kernel
theorem dX12_isInk_19 : decode cX12_isInk 19 = .ok (.goto 4, 3) := by decide +kernel
theorem dX12_isInk_22 : decode cX12_isInk 22 = .ok (.iconst 0, 1) := by decide +kernel
theorem dX12_isInk_23 : decode cX12_isInk 23 = .ok (.ireturn, 1) := by decide +kernel
def kX12_isInk_0 (g : sk_G) (d ck sk : Nat) (Q : sk_P) : sk_K := o_iload 0 (o_i (97) (o_iclt (sk_B (g, d, ck, sk, xX12_isInk, Q) 12) (o_iload 0 (o_i (122) (o_icle (o_i (1) (o_zret (g, d, ck, sk, xX12_isInk, Q))) (sk_B (g, d, ck, sk, xX12_isInk, Q) 12))))))
theorem tX12_isInk_0 {g : sk_G} {d ck sk : Nat} {Q : sk_P} : sk_S (g, d, ck, sk, xX12_isInk, Q) 0 (kX12_isInk_0 g d ck sk Q) := s_iload_n dX12_isInk_0 rfl (s_bipush dX12_isInk_1 rfl (s_iclt (tgt := 12) dX12_isInk_3 (by decide) (sk_id) (s_iload_n dX12_isInk_6 rfl (s_bipush dX12_isInk_7 rfl (s_icle (tgt := 18) dX12_isInk_9 (by decide) (s_iconst dX12_isInk_18 (s_goto (tgt := 23) dX12_isInk_19 (by decide) (s_zret dX12_isInk_23 rfl))) (sk_id))))))
def kX12_isInk_12 (g : sk_G) (d ck sk : Nat) (Q : sk_P) : sk_K := o_iload 0 (o_i (46) (o_icne (o_i (0) (o_zret (g, d, ck, sk, xX12_isInk, Q))) (o_i (1) (o_zret (g, d, ck, sk, xX12_isInk, Q)))))
theorem tX12_isInk_12 {g : sk_G} {d ck sk : Nat} {Q : sk_P} : sk_S (g, d, ck, sk, xX12_isInk, Q) 12 (kX12_isInk_12 g d ck sk Q) := s_iload_n dX12_isInk_12 rfl (s_bipush dX12_isInk_13 rfl (s_icne (tgt := 22) dX12_isInk_15 (by decide) (s_iconst dX12_isInk_22 (s_zret dX12_isInk_23 rfl)) (s_iconst dX12_isInk_18 (s_goto (tgt := 23) dX12_isInk_19 (by decide) (s_zret dX12_isInk_23 rfl)))))
theorem dX12_text_0 : decode cX12_text 0 = .ok (.iload_n 1, 1) := by decide +kernel
theorem dX12_text_1 : decode cX12_text 1 = .ok (.ifCond .ne 21, 3) := by decide +kernel
theorem dX12_text_4 : decode cX12_text 4 = .ok (.aload_n 0, 1) := by decide +kernel
theorem dX12_text_5 : decode cX12_text 5 = .ok (.invokevirtual 261, 3) := by decide +kernel
theorem dX12_text_8 : decode cX12_text 8 = .ok (.iconst (-1), 1) := by decide +kernel
theorem dX12_text_9 : decode cX12_text 9 = .ok (.if_icmp .ne 13, 3) := by decide +kernel
theorem dX12_text_12 : decode cX12_text 12 = .ok (.aload_n 0, 1) := by decide +kernel
theorem dX12_text_13 : decode cX12_text 13 = .ok (.iconst 0, 1) := by decide +kernel
theorem dX12_text_14 : decode cX12_text 14 = .ok (.putfield 116, 3) := by decide +kernel
theorem dX12_text_17 : decode cX12_text 17 = .ok (.aload_n 0, 1) := by decide +kernel
theorem dX12_text_18 : decode cX12_text 18 = .ok (.invokevirtual 286, 3) := by decide +kernel
theorem dX12_text_21 : decode cX12_text 21 = .ok (.ireturn, 1) := by decide +kernel
theorem dX12_text_22 : decode cX12_text 22 = .ok (.iload_n 1, 1) := by decide +kernel
theorem dX12_text_23 : decode cX12_text 23 = .ok (.iconst 1, 1) := by decide +kernel
theorem dX12_text_24 : decode cX12_text 24 = .ok (.if_icmp .ne 45, 3) := by decide +kernel
theorem dX12_text_27 : decode cX12_text 27 = .ok (.aload_n 0, 1) := by decide +kernel
theorem dX12_text_28 : decode cX12_text 28 = .ok (.getfield 289, 3) := by decide +kernel
theorem dX12_text_31 : decode cX12_text 31 = .ok (.iconst 4, 1) := by decide +kernel
theorem dX12_text_32 : decode cX12_text 32 = .ok (.if_icmp .ge 37, 3) := by decide +kernel
theorem dX12_text_35 : decode cX12_text 35 = .ok (.aload_n 0, 1) := by decide +kernel
theorem dX12_text_36 : decode cX12_text 36 = .ok (.aload_n 0, 1) := by decide +kernel
theorem dX12_text_37 : decode cX12_text 37 = .ok (.getfield 289, 3) := by decide +kernel
theorem dX12_text_40 : decode cX12_text 40 = .ok (.invokevirtual 264, 3) := by decide +kernel
theorem dX12_text_43 : decode cX12_text 43 = .ok (.iconst (-1), 1) := by decide +kernel
theorem dX12_text_44 : decode cX12_text 44 = .ok (.if_icmp .ne 25, 3) := by decide +kernel
theorem dX12_text_47 : decode cX12_text 47 = .ok (.aload_n 0, 1) := by decide +kernel
theorem dX12_text_48 : decode cX12_text 48 = .ok (.iconst 0, 1) := by decide +kernel
theorem dX12_text_49 : decode cX12_text 49 = .ok (.putfield 116, 3) := by decide +kernel
theorem dX12_text_52 : decode cX12_text 52 = .ok (.aload_n 0, 1) := by decide +kernel
theorem dX12_text_53 : decode cX12_text 53 = .ok (.dup, 1) := by decide +kernel
theorem dX12_text_54 : decode cX12_text 54 = .ok (.getfield 289, 3) := by decide +kernel
theorem dX12_text_57 : decode cX12_text 57 = .ok (.iconst 1, 1) := by decide +kernel
theorem dX12_text_58 : decode cX12_text 58 = .ok (.iadd, 1) := by decide +kernel
theorem dX12_text_59 : decode cX12_text 59 = .ok (.putfield 289, 3) := by decide +kernel
theorem dX12_text_62 : decode cX12_text 62 = .ok (.aload_n 0, 1) := by decide +kernel
theorem dX12_text_63 : decode cX12_text 63 = .ok (.getfield 289, 3) := by decide +kernel
theorem dX12_text_66 : decode cX12_text 66 = .ok (.iconst 1, 1) := by decide +kernel
theorem dX12_text_67 : decode cX12_text 67 = .ok (.isub, 1) := by decide +kernel
theorem dX12_text_68 : decode cX12_text 68 = .ok (.ireturn, 1) := by decide +kernel
theorem dX12_text_69 : decode cX12_text 69 = .ok (.iload_n 1, 1) := by decide +kernel
theorem dX12_text_70 : decode cX12_text 70 = .ok (.iconst 2, 1) := by decide +kernel
theorem dX12_text_71 : decode cX12_text 71 = .ok (.if_icmp .ne 46, 3) := by decide +kernel
theorem dX12_text_74 : decode cX12_text 74 = .ok (.aload_n 0, 1) := by decide +kernel
theorem dX12_text_75 : decode cX12_text 75 = .ok (.getfield 292, 3) := by decide +kernel
theorem dX12_text_78 : decode cX12_text 78 = .ok (.bipush 6, 2) := by decide +kernel
theorem dX12_text_80 : decode cX12_text 80 = .ok (.if_icmp .ge 37, 3) := by decide +kernel
theorem dX12_text_83 : decode cX12_text 83 = .ok (.aload_n 0, 1) := by decide +kernel
theorem dX12_text_84 : decode cX12_text 84 = .ok (.aload_n 0, 1) := by decide +kernel
theorem dX12_text_85 : decode cX12_text 85 = .ok (.getfield 292, 3) := by decide +kernel
theorem dX12_text_88 : decode cX12_text 88 = .ok (.invokevirtual 267, 3) := by decide +kernel
theorem dX12_text_91 : decode cX12_text 91 = .ok (.iconst (-1), 1) := by decide +kernel
theorem dX12_text_92 : decode cX12_text 92 = .ok (.if_icmp .ne 25, 3) := by decide +kernel
theorem dX12_text_95 : decode cX12_text 95 = .ok (.aload_n 0, 1) := by decide +kernel
theorem dX12_text_96 : decode cX12_text 96 = .ok (.iconst 0, 1) := by decide +kernel
theorem dX12_text_97 : decode cX12_text 97 = .ok (.putfield 116, 3) := by decide +kernel
theorem dX12_text_100 : decode cX12_text 100 = .ok (.aload_n 0, 1) := by decide +kernel
theorem dX12_text_101 : decode cX12_text 101 = .ok (.dup, 1) := by decide +kernel
theorem dX12_text_102 : decode cX12_text 102 = .ok (.getfield 292, 3) := by decide +kernel
theorem dX12_text_105 : decode cX12_text 105 = .ok (.iconst 1, 1) := by decide +kernel
theorem dX12_text_106 : decode cX12_text 106 = .ok (.iadd, 1) := by decide +kernel
theorem dX12_text_107 : decode cX12_text 107 = .ok (.putfield 292, 3) := by decide +kernel
theorem dX12_text_110 : decode cX12_text 110 = .ok (.aload_n 0, 1) := by decide +kernel
theorem dX12_text_111 : decode cX12_text 111 = .ok (.getfield 292, 3) := by decide +kernel
theorem dX12_text_114 : decode cX12_text 114 = .ok (.iconst 1, 1) := by decide +kernel
theorem dX12_text_115 : decode cX12_text 115 = .ok (.isub, 1) := by decide +kernel
theorem dX12_text_116 : decode cX12_text 116 = .ok (.ireturn, 1) := by decide +kernel
theorem dX12_text_117 : decode cX12_text 117 = .ok (.iconst (-1), 1) := by decide +kernel
theorem dX12_text_118 : decode cX12_text 118 = .ok (.ireturn, 1) := by decide +kernel
set_option maxRecDepth 20000 in
def kX12_text_0 (g : sk_G) (d ck sk : Nat) (Q : sk_P) : sk_K := o_iload 1 (o_ifne (sk_B (g, d, ck, sk, xX12_text, Q) 22) (o_aload 0 (o_invB (g, d, ck, sk, xX12_text, Q) xX12_readSkin 0 12 0 0 (o_i (-1) (o_icne (sk_B (g, d, ck, sk, xX12_text, Q) 22) (o_aload 0 (o_i (0) (o_puti 12 2 (o_aload 0 (o_invB (g, d, ck, sk, xX12_text, Q) xX12_takeSkin 0 12 0 0 (o_iret (g, d, ck, sk, xX12_text, Q))))))))))))
set_option maxRecDepth 20000 in
theorem tX12_text_0 {g : sk_G} {d ck sk : Nat} {Q : sk_P} : sk_S (g, d, ck, sk, xX12_text, Q) 0 (kX12_text_0 g d ck sk Q) := s_iload_n dX12_text_0 rfl (s_ifne (tgt := 22) dX12_text_1 (by decide) (sk_id) (s_aload_n dX12_text_4 rfl (s_invB (w' := (g, d, ck, sk, xX12_text, Q)) (ci := 12) (ck := 0) (sk := 0) (T := TX12) (N := 49) dX12_text_5 m_X12_readSkin rfl (by decide) qm_X12_261 qi_X12_readSkin qe_X12_readSkin rfl (s_iconst dX12_text_8 (s_icne (tgt := 22) dX12_text_9 (by decide) (sk_id) (s_aload_n dX12_text_12 rfl (s_iconst dX12_text_13 (s_puti (ci := 12) (j := 2) (C := RX12) (T := TX12) (N := 49) dX12_text_14 rfl (by decide) (by decide) rfl (tyX12_ok 2 (by decide)) qf_X12_116 (s_aload_n dX12_text_17 rfl (s_invB (w' := (g, d, ck, sk, xX12_text, Q)) (ci := 12) (ck := 0) (sk := 0) (T := TX12) (N := 49) dX12_text_18 m_X12_takeSkin rfl (by decide) qm_X12_286 qi_X12_takeSkin qe_X12_takeSkin rfl (s_iret dX12_text_21 rfl)))))))))))
set_option maxRecDepth 20000 in
def kX12_text_22 (g : sk_G) (d ck sk : Nat) (Q : sk_P) : sk_K := o_iload 1 (o_i (1) (o_icne (sk_B (g, d, ck, sk, xX12_text, Q) 69) (o_aload 0 (o_getf 12 13 (o_i (4) (o_icge (sk_B (g, d, ck, sk, xX12_text, Q) 69) (o_aload 0 (o_aload 0 (o_getf 12 13 (o_invB (g, d, ck, sk, xX12_text, Q) xX12_readLaw 1 12 0 0 (o_i (-1) (o_icne (sk_B (g, d, ck, sk, xX12_text, Q) 69) (o_aload 0 (o_i (0) (o_puti 12 2 (o_aload 0 (o_dup (o_getf 12 13 (o_i (1) (o_iadd (o_puti 12 13 (o_aload 0 (o_getf 12 13 (o_i (1) (o_isub (o_iret (g, d, ck, sk, xX12_text, Q)))))))))))))))))))))))))))
set_option maxRecDepth 20000 in
theorem tX12_text_22 {g : sk_G} {d ck sk : Nat} {Q : sk_P} : sk_S (g, d, ck, sk, xX12_text, Q) 22 (kX12_text_22 g d ck sk Q) := s_iload_n dX12_text_22 rfl (s_iconst dX12_text_23 (s_icne (tgt := 69) dX12_text_24 (by decide) (sk_id) (s_aload_n dX12_text_27 rfl (s_getf (ci := 12) (j := 13) (C := RX12) (T := TX12) (N := 49) dX12_text_28 rfl (by decide) (by decide) qf_X12_289 (s_iconst dX12_text_31 (s_icge (tgt := 69) dX12_text_32 (by decide) (sk_id) (s_aload_n dX12_text_35 rfl (s_aload_n dX12_text_36 rfl (s_getf (ci := 12) (j := 13) (C := RX12) (T := TX12) (N := 49) dX12_text_37 rfl (by decide) (by decide) qf_X12_289 (s_invB (w' := (g, d, ck, sk, xX12_text, Q)) (ci := 12) (ck := 0) (sk := 0) (T := TX12) (N := 49) dX12_text_40 m_X12_readLaw rfl (by decide) qm_X12_264 qi_X12_readLaw qe_X12_readLaw rfl (s_iconst dX12_text_43 (s_icne (tgt := 69) dX12_text_44 (by decide) (sk_id) (s_aload_n dX12_text_47 rfl (s_iconst dX12_text_48 (s_puti (ci := 12) (j := 2) (C := RX12) (T := TX12) (N := 49) dX12_text_49 rfl (by decide) (by decide) rfl (tyX12_ok 2 (by decide)) qf_X12_116 (s_aload_n dX12_text_52 rfl (s_dup dX12_text_53 (s_getf (ci := 12) (j := 13) (C := RX12) (T := TX12) (N := 49) dX12_text_54 rfl (by decide) (by decide) qf_X12_289 (s_iconst dX12_text_57 (s_iadd dX12_text_58 (s_puti (ci := 12) (j := 13) (C := RX12) (T := TX12) (N := 49) dX12_text_59 rfl (by decide) (by decide) rfl (tyX12_ok 13 (by decide)) qf_X12_289 (s_aload_n dX12_text_62 rfl (s_getf (ci := 12) (j := 13) (C := RX12) (T := TX12) (N := 49) dX12_text_63 rfl (by decide) (by decide) qf_X12_289 (s_iconst dX12_text_66 (s_isub dX12_text_67 (s_iret dX12_text_68 rfl))))))))))))))))))))))))))
set_option maxRecDepth 20000 in
def kX12_text_69 (g : sk_G) (d ck sk : Nat) (Q : sk_P) : sk_K := o_iload 1 (o_i (2) (o_icne (o_i (-1) (o_iret (g, d, ck, sk, xX12_text, Q))) (o_aload 0 (o_getf 12 27 (o_i (6) (o_icge (o_i (-1) (o_iret (g, d, ck, sk, xX12_text, Q))) (o_aload 0 (o_aload 0 (o_getf 12 27 (o_invB (g, d, ck, sk, xX12_text, Q) xX12_readWriting 1 12 0 0 (o_i (-1) (o_icne (o_i (-1) (o_iret (g, d, ck, sk, xX12_text, Q))) (o_aload 0 (o_i (0) (o_puti 12 2 (o_aload 0 (o_dup (o_getf 12 27 (o_i (1) (o_iadd (o_puti 12 27 (o_aload 0 (o_getf 12 27 (o_i (1) (o_isub (o_iret (g, d, ck, sk, xX12_text, Q)))))))))))))))))))))))))))
set_option maxRecDepth 20000 in
theorem tX12_text_69 {g : sk_G} {d ck sk : Nat} {Q : sk_P} : sk_S (g, d, ck, sk, xX12_text, Q) 69 (kX12_text_69 g d ck sk Q) := s_iload_n dX12_text_69 rfl (s_iconst dX12_text_70 (s_icne (tgt := 117) dX12_text_71 (by decide) (s_iconst dX12_text_117 (s_iret dX12_text_118 rfl)) (s_aload_n dX12_text_74 rfl (s_getf (ci := 12) (j := 27) (C := RX12) (T := TX12) (N := 49) dX12_text_75 rfl (by decide) (by decide) qf_X12_292 (s_bipush dX12_text_78 rfl (s_icge (tgt := 117) dX12_text_80 (by decide) (s_iconst dX12_text_117 (s_iret dX12_text_118 rfl)) (s_aload_n dX12_text_83 rfl (s_aload_n dX12_text_84 rfl (s_getf (ci := 12) (j := 27) (C := RX12) (T := TX12) (N := 49) dX12_text_85 rfl (by decide) (by decide) qf_X12_292 (s_invB (w' := (g, d, ck, sk, xX12_text, Q)) (ci := 12) (ck := 0) (sk := 0) (T := TX12) (N := 49) dX12_text_88 m_X12_readWriting rfl (by decide) qm_X12_267 qi_X12_readWriting qe_X12_readWriting rfl (s_iconst dX12_text_91 (s_icne (tgt := 117) dX12_text_92 (by decide) (s_iconst dX12_text_117 (s_iret dX12_text_118 rfl)) (s_aload_n dX12_text_95 rfl (s_iconst dX12_text_96 (s_puti (ci := 12) (j := 2) (C := RX12) (T := TX12) (N := 49) dX12_text_97 rfl (by decide) (by decide) rfl (tyX12_ok 2 (by decide)) qf_X12_116 (s_aload_n dX12_text_100 rfl (s_dup dX12_text_101 (s_getf (ci := 12) (j := 27) (C := RX12) (T := TX12) (N := 49) dX12_text_102 rfl (by decide) (by decide) qf_X12_292 (s_iconst dX12_text_105 (s_iadd dX12_text_106 (s_puti (ci := 12) (j := 27) (C := RX12) (T := TX12) (N := 49) dX12_text_107 rfl (by decide) (by decide) rfl (tyX12_ok 27 (by decide)) qf_X12_292 (s_aload_n dX12_text_110 rfl (s_getf (ci := 12) (j := 27) (C := RX12) (T := TX12) (N := 49) dX12_text_111 rfl (by decide) (by decide) qf_X12_292 (s_iconst dX12_text_114 (s_isub dX12_text_115 (s_iret dX12_text_116 rfl))))))))))))))))))))))))))
theorem dX12_takeSkin_0 : decode cX12_takeSkin 0 = .ok (.aload_n 0, 1) := by decide +kernel
theorem dX12_takeSkin_1 : decode cX12_takeSkin 1 = .ok (.aload_n 0, 1) := by decide +kernel
theorem dX12_takeSkin_2 : decode cX12_takeSkin 2 = .ok (.getfield 248, 3) := by decide +kernel
theorem dX12_takeSkin_5 : decode cX12_takeSkin 5 = .ok (.putfield 270, 3) := by decide +kernel
theorem dX12_takeSkin_8 : decode cX12_takeSkin 8 = .ok (.iconst 0, 1) := by decide +kernel
theorem dX12_takeSkin_9 : decode cX12_takeSkin 9 = .ok (.istore_n 1, 1) := by decide +kernel
theorem dX12_takeSkin_10 : decode cX12_takeSkin 10 = .ok (.iload_n 1, 1) := by decide +kernel
theorem dX12_takeSkin_11 : decode cX12_takeSkin 11 = .ok (.iconst 4, 1) := by decide +kernel
theorem dX12_takeSkin_12 : decode cX12_takeSkin 12 = .ok (.if_icmp .ge 21, 3) := by decide +kernel
theorem dX12_takeSkin_15 : decode cX12_takeSkin 15 = .ok (.aload_n 0, 1) := by decide +kernel
theorem dX12_takeSkin_16 : decode cX12_takeSkin 16 = .ok (.getfield 46, 3) := by decide +kernel
theorem dX12_takeSkin_19 : decode cX12_takeSkin 19 = .ok (.iload_n 1, 1) := by decide +kernel
theorem dX12_takeSkin_20 : decode cX12_takeSkin 20 = .ok (.aload_n 0, 1) := by decide +kernel
theorem dX12_takeSkin_21 : decode cX12_takeSkin 21 = .ok (.getfield 40, 3) := by decide +kernel
theorem dX12_takeSkin_24 : decode cX12_takeSkin 24 = .ok (.iload_n 1, 1) := by decide +kernel
theorem dX12_takeSkin_25 : decode cX12_takeSkin 25 = .ok (.iaload, 1) := by decide +kernel
theorem dX12_takeSkin_26 : decode cX12_takeSkin 26 = .ok (.iastore, 1) := by decide +kernel
theorem dX12_takeSkin_27 : decode cX12_takeSkin 27 = .ok (.iinc 1 1, 3) := by decide +kernel
theorem dX12_takeSkin_30 : decode cX12_takeSkin 30 = .ok (.goto (-20), 3) := by decide +kernel
theorem dX12_takeSkin_33 : decode cX12_takeSkin 33 = .ok (.aload_n 0, 1) := by decide +kernel
theorem dX12_takeSkin_34 : decode cX12_takeSkin 34 = .ok (.aload_n 0, 1) := by decide +kernel
theorem dX12_takeSkin_35 : decode cX12_takeSkin 35 = .ok (.getfield 46, 3) := by decide +kernel
theorem dX12_takeSkin_38 : decode cX12_takeSkin 38 = .ok (.iconst 0, 1) := by decide +kernel
theorem dX12_takeSkin_39 : decode cX12_takeSkin 39 = .ok (.iaload, 1) := by decide +kernel
theorem dX12_takeSkin_40 : decode cX12_takeSkin 40 = .ok (.aload_n 0, 1) := by decide +kernel
theorem dX12_takeSkin_41 : decode cX12_takeSkin 41 = .ok (.getfield 46, 3) := by decide +kernel
theorem dX12_takeSkin_44 : decode cX12_takeSkin 44 = .ok (.iconst 1, 1) := by decide +kernel
theorem dX12_takeSkin_45 : decode cX12_takeSkin 45 = .ok (.iaload, 1) := by decide +kernel
theorem dX12_takeSkin_46 : decode cX12_takeSkin 46 = .ok (.imul, 1) := by decide +kernel
theorem dX12_takeSkin_47 : decode cX12_takeSkin 47 = .ok (.putfield 273, 3) := by decide +kernel
theorem dX12_takeSkin_50 : decode cX12_takeSkin 50 = .ok (.iconst 0, 1) := by decide +kernel
theorem dX12_takeSkin_51 : decode cX12_takeSkin 51 = .ok (.istore_n 1, 1) := by decide +kernel
theorem dX12_takeSkin_52 : decode cX12_takeSkin 52 = .ok (.iload_n 1, 1) := by decide +kernel
theorem dX12_takeSkin_53 : decode cX12_takeSkin 53 = .ok (.bipush 8, 2) := by decide +kernel
theorem dX12_takeSkin_55 : decode cX12_takeSkin 55 = .ok (.if_icmp .ge 21, 3) := by decide +kernel
theorem dX12_takeSkin_58 : decode cX12_takeSkin 58 = .ok (.aload_n 0, 1) := by decide +kernel
theorem dX12_takeSkin_59 : decode cX12_takeSkin 59 = .ok (.getfield 49, 3) := by decide +kernel
theorem dX12_takeSkin_62 : decode cX12_takeSkin 62 = .ok (.iload_n 1, 1) := by decide +kernel
theorem dX12_takeSkin_63 : decode cX12_takeSkin 63 = .ok (.aload_n 0, 1) := by decide +kernel
theorem dX12_takeSkin_64 : decode cX12_takeSkin 64 = .ok (.getfield 43, 3) := by decide +kernel
theorem dX12_takeSkin_67 : decode cX12_takeSkin 67 = .ok (.iload_n 1, 1) := by decide +kernel
theorem dX12_takeSkin_68 : decode cX12_takeSkin 68 = .ok (.iaload, 1) := by decide +kernel
theorem dX12_takeSkin_69 : decode cX12_takeSkin 69 = .ok (.iastore, 1) := by decide +kernel
theorem dX12_takeSkin_70 : decode cX12_takeSkin 70 = .ok (.iinc 1 1, 3) := by decide +kernel
theorem dX12_takeSkin_73 : decode cX12_takeSkin 73 = .ok (.goto (-21), 3) := by decide +kernel
theorem dX12_takeSkin_76 : decode cX12_takeSkin 76 = .ok (.iconst 0, 1) := by decide +kernel
theorem dX12_takeSkin_77 : decode cX12_takeSkin 77 = .ok (.istore_n 1, 1) := by decide +kernel
theorem dX12_takeSkin_78 : decode cX12_takeSkin 78 = .ok (.iload_n 1, 1) := by decide +kernel
theorem dX12_takeSkin_79 : decode cX12_takeSkin 79 = .ok (.sipush 943, 3) := by decide +kernel
theorem dX12_takeSkin_82 : decode cX12_takeSkin 82 = .ok (.if_icmp .ge 16, 3) := by decide +kernel
theorem dX12_takeSkin_85 : decode cX12_takeSkin 85 = .ok (.aload_n 0, 1) := by decide +kernel
theorem dX12_takeSkin_86 : decode cX12_takeSkin 86 = .ok (.getfield 61, 3) := by decide +kernel
theorem dX12_takeSkin_89 : decode cX12_takeSkin 89 = .ok (.iload_n 1, 1) := by decide +kernel
theorem dX12_takeSkin_90 : decode cX12_takeSkin 90 = .ok (.iconst 0, 1) := by decide +kernel
theorem dX12_takeSkin_91 : decode cX12_takeSkin 91 = .ok (.iastore, 1) := by decide +kernel
theorem dX12_takeSkin_92 : decode cX12_takeSkin 92 = .ok (.iinc 1 1, 3) := by decide +kernel
theorem dX12_takeSkin_95 : decode cX12_takeSkin 95 = .ok (.goto (-17), 3) := by decide +kernel
theorem dX12_takeSkin_98 : decode cX12_takeSkin 98 = .ok (.aload_n 0, 1) := by decide +kernel
theorem dX12_takeSkin_99 : decode cX12_takeSkin 99 = .ok (.getfield 61, 3) := by decide +kernel
theorem dX12_takeSkin_102 : decode cX12_takeSkin 102 = .ok (.sipush 760, 3) := by decide +kernel
theorem dX12_takeSkin_105 : decode cX12_takeSkin 105 = .ok (.aload_n 0, 1) := by decide +kernel
theorem dX12_takeSkin_106 : decode cX12_takeSkin 106 = .ok (.getfield 46, 3) := by decide +kernel
theorem dX12_takeSkin_109 : decode cX12_takeSkin 109 = .ok (.iconst 3, 1) := by decide +kernel
theorem dX12_takeSkin_110 : decode cX12_takeSkin 110 = .ok (.iaload, 1) := by decide +kernel
theorem dX12_takeSkin_111 : decode cX12_takeSkin 111 = .ok (.iastore, 1) := by decide +kernel
theorem dX12_takeSkin_112 : decode cX12_takeSkin 112 = .ok (.aload_n 0, 1) := by decide +kernel
theorem dX12_takeSkin_113 : decode cX12_takeSkin 113 = .ok (.iconst 0, 1) := by decide +kernel
theorem dX12_takeSkin_114 : decode cX12_takeSkin 114 = .ok (.putfield 276, 3) := by decide +kernel
theorem dX12_takeSkin_117 : decode cX12_takeSkin 117 = .ok (.aload_n 0, 1) := by decide +kernel
theorem dX12_takeSkin_118 : decode cX12_takeSkin 118 = .ok (.iconst 0, 1) := by decide +kernel
theorem dX12_takeSkin_119 : decode cX12_takeSkin 119 = .ok (.putfield 279, 3) := by decide +kernel
theorem dX12_takeSkin_122 : decode cX12_takeSkin 122 = .ok (.aload_n 0, 1) := by decide +kernel
theorem dX12_takeSkin_123 : decode cX12_takeSkin 123 = .ok (.iconst 0, 1) := by decide +kernel
theorem dX12_takeSkin_124 : decode cX12_takeSkin 124 = .ok (.putfield 282, 3) := by decide +kernel
theorem dX12_takeSkin_127 : decode cX12_takeSkin 127 = .ok (.aload_n 0, 1) := by decide +kernel
theorem dX12_takeSkin_128 : decode cX12_takeSkin 128 = .ok (.getfield 273, 3) := by decide +kernel
theorem dX12_takeSkin_131 : decode cX12_takeSkin 131 = .ok (.ireturn, 1) := by decide +kernel
def kX12_takeSkin_0 (g : sk_G) (d ck sk : Nat) (Q : sk_P) : sk_K := o_aload 0 (o_aload 0 (o_getf 12 19 (o_puti 12 22 (o_i (0) (o_istore 1 (sk_B (g, d, ck, sk, xX12_takeSkin, Q) 10))))))
theorem tX12_takeSkin_0 {g : sk_G} {d ck sk : Nat} {Q : sk_P} : sk_S (g, d, ck, sk, xX12_takeSkin, Q) 0 (kX12_takeSkin_0 g d ck sk Q) := s_aload_n dX12_takeSkin_0 rfl (s_aload_n dX12_takeSkin_1 rfl (s_getf (ci := 12) (j := 19) (C := RX12) (T := TX12) (N := 49) dX12_takeSkin_2 rfl (by decide) (by decide) qf_X12_248 (s_puti (ci := 12) (j := 22) (C := RX12) (T := TX12) (N := 49) dX12_takeSkin_5 rfl (by decide) (by decide) rfl (tyX12_ok 22 (by decide)) qf_X12_270 (s_iconst dX12_takeSkin_8 (s_istore_n dX12_takeSkin_9 rfl (by decide : 1 < 2) (sk_id))))))
set_option maxRecDepth 20000 in
def kX12_takeSkin_10 (g : sk_G) (d ck sk : Nat) (Q : sk_P) : sk_K := o_iload 1 (o_i (4) (o_icge (o_aload 0 (o_aload 0 (o_getf 12 20 (o_i (0) (o_iaload (o_aload 0 (o_getf 12 20 (o_i (1) (o_iaload (o_imul (o_puti 12 23 (o_i (0) (o_istore 1 (sk_B (g, d, ck, sk, xX12_takeSkin, Q) 52)))))))))))))) (o_aload 0 (o_getf 12 20 (o_iload 1 (o_aload 0 (o_getf 12 17 (o_iload 1 (o_iaload (o_iastore (o_iinc 1 (1) (sk_B (g, d, ck, sk, xX12_takeSkin, Q) 10))))))))))))
set_option maxRecDepth 20000 in
theorem tX12_takeSkin_10 {g : sk_G} {d ck sk : Nat} {Q : sk_P} : sk_S (g, d, ck, sk, xX12_takeSkin, Q) 10 (kX12_takeSkin_10 g d ck sk Q) := s_iload_n dX12_takeSkin_10 rfl (s_iconst dX12_takeSkin_11 (s_icge (tgt := 33) dX12_takeSkin_12 (by decide) (s_aload_n dX12_takeSkin_33 rfl (s_aload_n dX12_takeSkin_34 rfl (s_getf (ci := 12) (j := 20) (C := RX12) (T := TX12) (N := 49) dX12_takeSkin_35 rfl (by decide) (by decide) qf_X12_46 (s_iconst dX12_takeSkin_38 (s_iaload dX12_takeSkin_39 (s_aload_n dX12_takeSkin_40 rfl (s_getf (ci := 12) (j := 20) (C := RX12) (T := TX12) (N := 49) dX12_takeSkin_41 rfl (by decide) (by decide) qf_X12_46 (s_iconst dX12_takeSkin_44 (s_iaload dX12_takeSkin_45 (s_imul dX12_takeSkin_46 (s_puti (ci := 12) (j := 23) (C := RX12) (T := TX12) (N := 49) dX12_takeSkin_47 rfl (by decide) (by decide) rfl (tyX12_ok 23 (by decide)) qf_X12_273 (s_iconst dX12_takeSkin_50 (s_istore_n dX12_takeSkin_51 rfl (by decide : 1 < 2) (sk_id)))))))))))))) (s_aload_n dX12_takeSkin_15 rfl (s_getf (ci := 12) (j := 20) (C := RX12) (T := TX12) (N := 49) dX12_takeSkin_16 rfl (by decide) (by decide) qf_X12_46 (s_iload_n dX12_takeSkin_19 rfl (s_aload_n dX12_takeSkin_20 rfl (s_getf (ci := 12) (j := 17) (C := RX12) (T := TX12) (N := 49) dX12_takeSkin_21 rfl (by decide) (by decide) qf_X12_40 (s_iload_n dX12_takeSkin_24 rfl (s_iaload dX12_takeSkin_25 (s_iastore dX12_takeSkin_26 (s_iinc dX12_takeSkin_27 (by decide : 1 < 2) (s_goto (tgt := 10) dX12_takeSkin_30 (by decide) (sk_id)))))))))))))
set_option maxRecDepth 20000 in
def kX12_takeSkin_52 (g : sk_G) (d ck sk : Nat) (Q : sk_P) : sk_K := o_iload 1 (o_i (8) (o_icge (o_i (0) (o_istore 1 (sk_B (g, d, ck, sk, xX12_takeSkin, Q) 78))) (o_aload 0 (o_getf 12 21 (o_iload 1 (o_aload 0 (o_getf 12 18 (o_iload 1 (o_iaload (o_iastore (o_iinc 1 (1) (sk_B (g, d, ck, sk, xX12_takeSkin, Q) 52))))))))))))
set_option maxRecDepth 20000 in
theorem tX12_takeSkin_52 {g : sk_G} {d ck sk : Nat} {Q : sk_P} : sk_S (g, d, ck, sk, xX12_takeSkin, Q) 52 (kX12_takeSkin_52 g d ck sk Q) := s_iload_n dX12_takeSkin_52 rfl (s_bipush dX12_takeSkin_53 rfl (s_icge (tgt := 76) dX12_takeSkin_55 (by decide) (s_iconst dX12_takeSkin_76 (s_istore_n dX12_takeSkin_77 rfl (by decide : 1 < 2) (sk_id))) (s_aload_n dX12_takeSkin_58 rfl (s_getf (ci := 12) (j := 21) (C := RX12) (T := TX12) (N := 49) dX12_takeSkin_59 rfl (by decide) (by decide) qf_X12_49 (s_iload_n dX12_takeSkin_62 rfl (s_aload_n dX12_takeSkin_63 rfl (s_getf (ci := 12) (j := 18) (C := RX12) (T := TX12) (N := 49) dX12_takeSkin_64 rfl (by decide) (by decide) qf_X12_43 (s_iload_n dX12_takeSkin_67 rfl (s_iaload dX12_takeSkin_68 (s_iastore dX12_takeSkin_69 (s_iinc dX12_takeSkin_70 (by decide : 1 < 2) (s_goto (tgt := 52) dX12_takeSkin_73 (by decide) (sk_id)))))))))))))
set_option maxRecDepth 20000 in
def kX12_takeSkin_78 (g : sk_G) (d ck sk : Nat) (Q : sk_P) : sk_K := o_iload 1 (o_i (943) (o_icge (o_aload 0 (o_getf 12 28 (o_i (760) (o_aload 0 (o_getf 12 20 (o_i (3) (o_iaload (o_iastore (o_aload 0 (o_i (0) (o_puti 12 45 (o_aload 0 (o_i (0) (o_puti 12 33 (o_aload 0 (o_i (0) (o_putz 12 48 (o_aload 0 (o_getf 12 23 (o_iret (g, d, ck, sk, xX12_takeSkin, Q))))))))))))))))))))) (o_aload 0 (o_getf 12 28 (o_iload 1 (o_i (0) (o_iastore (o_iinc 1 (1) (sk_B (g, d, ck, sk, xX12_takeSkin, Q) 78)))))))))
set_option maxRecDepth 20000 in
theorem tX12_takeSkin_78 {g : sk_G} {d ck sk : Nat} {Q : sk_P} : sk_S (g, d, ck, sk, xX12_takeSkin, Q) 78 (kX12_takeSkin_78 g d ck sk Q) := s_iload_n dX12_takeSkin_78 rfl (s_sipush dX12_takeSkin_79 rfl (s_icge (tgt := 98) dX12_takeSkin_82 (by decide) (s_aload_n dX12_takeSkin_98 rfl (s_getf (ci := 12) (j := 28) (C := RX12) (T := TX12) (N := 49) dX12_takeSkin_99 rfl (by decide) (by decide) qf_X12_61 (s_sipush dX12_takeSkin_102 rfl (s_aload_n dX12_takeSkin_105 rfl (s_getf (ci := 12) (j := 20) (C := RX12) (T := TX12) (N := 49) dX12_takeSkin_106 rfl (by decide) (by decide) qf_X12_46 (s_iconst dX12_takeSkin_109 (s_iaload dX12_takeSkin_110 (s_iastore dX12_takeSkin_111 (s_aload_n dX12_takeSkin_112 rfl (s_iconst dX12_takeSkin_113 (s_puti (ci := 12) (j := 45) (C := RX12) (T := TX12) (N := 49) dX12_takeSkin_114 rfl (by decide) (by decide) rfl (tyX12_ok 45 (by decide)) qf_X12_276 (s_aload_n dX12_takeSkin_117 rfl (s_iconst dX12_takeSkin_118 (s_puti (ci := 12) (j := 33) (C := RX12) (T := TX12) (N := 49) dX12_takeSkin_119 rfl (by decide) (by decide) rfl (tyX12_ok 33 (by decide)) qf_X12_279 (s_aload_n dX12_takeSkin_122 rfl (s_iconst dX12_takeSkin_123 (s_putz (ci := 12) (j := 48) (C := RX12) (T := TX12) (N := 49) dX12_takeSkin_124 rfl (by decide) (by decide) rfl (tyX12_ok 48 (by decide)) qf_X12_282 (s_aload_n dX12_takeSkin_127 rfl (s_getf (ci := 12) (j := 23) (C := RX12) (T := TX12) (N := 49) dX12_takeSkin_128 rfl (by decide) (by decide) qf_X12_273 (s_iret dX12_takeSkin_131 rfl)))))))))))))))))))) (s_aload_n dX12_takeSkin_85 rfl (s_getf (ci := 12) (j := 28) (C := RX12) (T := TX12) (N := 49) dX12_takeSkin_86 rfl (by decide) (by decide) qf_X12_61 (s_iload_n dX12_takeSkin_89 rfl (s_iconst dX12_takeSkin_90 (s_iastore dX12_takeSkin_91 (s_iinc dX12_takeSkin_92 (by decide : 1 < 2) (s_goto (tgt := 78) dX12_takeSkin_95 (by decide) (sk_id))))))))))
theorem dX12_rule_0 : decode cX12_rule 0 = .ok (.aload_n 0, 1) := by decide +kernel
theorem dX12_rule_1 : decode cX12_rule 1 = .ok (.getfield 273, 3) := by decide +kernel
theorem dX12_rule_4 : decode cX12_rule 4 = .ok (.ifCond .eq 12, 3) := by decide +kernel
theorem dX12_rule_7 : decode cX12_rule 7 = .ok (.iload_n 1, 1) := by decide +kernel
theorem dX12_rule_8 : decode cX12_rule 8 = .ok (.iconst 0, 1) := by decide +kernel
theorem dX12_rule_9 : decode cX12_rule 9 = .ok (.iconst 3, 1) := by decide +kernel
theorem dX12_rule_10 : decode cX12_rule 10 = .ok (.invokestatic 224, 3) := by decide +kernel
theorem dX12_rule_13 : decode cX12_rule 13 = .ok (.ifCond .ne 7, 3) := by decide +kernel
theorem dX12_rule_16 : decode cX12_rule 16 = .ok (.iconst (-1), 1) := by decide +kernel
theorem dX12_rule_17 : decode cX12_rule 17 = .ok (.goto 25, 3) := by decide +kernel
theorem dX12_rule_20 : decode cX12_rule 20 = .ok (.iload_n 1, 1) := by decide +kernel
theorem dX12_rule_21 : decode cX12_rule 21 = .ok (.iconst 3, 1) := by decide +kernel
theorem dX12_rule_22 : decode cX12_rule 22 = .ok (.if_icmp .ne 14, 3) := by decide +kernel
theorem dX12_rule_25 : decode cX12_rule 25 = .ok (.aload_n 0, 1) := by decide +kernel
theorem dX12_rule_26 : decode cX12_rule 26 = .ok (.getfield 61, 3) := by decide +kernel
theorem dX12_rule_29 : decode cX12_rule 29 = .ok (.sipush 760, 3) := by decide +kernel
theorem dX12_rule_32 : decode cX12_rule 32 = .ok (.iaload, 1) := by decide +kernel
theorem dX12_rule_33 : decode cX12_rule 33 = .ok (.goto 9, 3) := by decide +kernel
theorem dX12_rule_36 : decode cX12_rule 36 = .ok (.aload_n 0, 1) := by decide +kernel
theorem dX12_rule_37 : decode cX12_rule 37 = .ok (.getfield 46, 3) := by decide +kernel
theorem dX12_rule_40 : decode cX12_rule 40 = .ok (.iload_n 1, 1) := by decide +kernel
theorem dX12_rule_41 : decode cX12_rule 41 = .ok (.iaload, 1) := by decide +kernel
theorem dX12_rule_42 : decode cX12_rule 42 = .ok (.ireturn, 1) := by decide +kernel
set_option maxRecDepth 20000 in
def kX12_rule_0 (g : sk_G) (d ck sk : Nat) (Q : sk_P) : sk_K := o_aload 0 (o_getf 12 23 (o_ifeq (o_i (-1) (o_iret (g, d, ck, sk, xX12_rule, Q))) (o_iload 1 (o_i (0) (o_i (3) (o_stcB (g, d, ck, sk, xX12_rule, Q) xX12_in 3 0 0 (o_ifne (o_iload 1 (o_i (3) (o_icne (o_aload 0 (o_getf 12 20 (o_iload 1 (o_iaload (o_iret (g, d, ck, sk, xX12_rule, Q)))))) (o_aload 0 (o_getf 12 28 (o_i (760) (o_iaload (o_iret (g, d, ck, sk, xX12_rule, Q))))))))) (o_i (-1) (o_iret (g, d, ck, sk, xX12_rule, Q))))))))))
set_option maxRecDepth 20000 in
theorem tX12_rule_0 {g : sk_G} {d ck sk : Nat} {Q : sk_P} : sk_S (g, d, ck, sk, xX12_rule, Q) 0 (kX12_rule_0 g d ck sk Q) := s_aload_n dX12_rule_0 rfl (s_getf (ci := 12) (j := 23) (C := RX12) (T := TX12) (N := 49) dX12_rule_1 rfl (by decide) (by decide) qf_X12_273 (s_ifeq (tgt := 16) dX12_rule_4 (by decide) (s_iconst dX12_rule_16 (s_goto (tgt := 42) dX12_rule_17 (by decide) (s_iret dX12_rule_42 rfl))) (s_iload_n dX12_rule_7 rfl (s_iconst dX12_rule_8 (s_iconst dX12_rule_9 (s_stcB (w' := (g, d, ck, sk, xX12_rule, Q)) (ck := 0) (sk := 0) dX12_rule_10 m_X12_in qm_X12_224 qs_X12_in rfl (s_ifne (tgt := 20) dX12_rule_13 (by decide) (s_iload_n dX12_rule_20 rfl (s_iconst dX12_rule_21 (s_icne (tgt := 36) dX12_rule_22 (by decide) (s_aload_n dX12_rule_36 rfl (s_getf (ci := 12) (j := 20) (C := RX12) (T := TX12) (N := 49) dX12_rule_37 rfl (by decide) (by decide) qf_X12_46 (s_iload_n dX12_rule_40 rfl (s_iaload dX12_rule_41 (s_iret dX12_rule_42 rfl))))) (s_aload_n dX12_rule_25 rfl (s_getf (ci := 12) (j := 28) (C := RX12) (T := TX12) (N := 49) dX12_rule_26 rfl (by decide) (by decide) qf_X12_61 (s_sipush dX12_rule_29 rfl (s_iaload dX12_rule_32 (s_goto (tgt := 42) dX12_rule_33 (by decide) (s_iret dX12_rule_42 rfl))))))))) (s_iconst dX12_rule_16 (s_goto (tgt := 42) dX12_rule_17 (by decide) (s_iret dX12_rule_42 rfl))))))))))
theorem dX12_hand_0 : decode cX12_hand 0 = .ok (.aload_n 0, 1) := by decide +kernel
theorem dX12_hand_1 : decode cX12_hand 1 = .ok (.aload_n 0, 1) := by decide +kernel
theorem dX12_hand_2 : decode cX12_hand 2 = .ok (.iload_n 1, 1) := by decide +kernel
theorem dX12_hand_3 : decode cX12_hand 3 = .ok (.invokevirtual 352, 3) := by decide +kernel
theorem dX12_hand_6 : decode cX12_hand 6 = .ok (.ifCond .eq 16, 3) := by decide +kernel
theorem dX12_hand_9 : decode cX12_hand 9 = .ok (.iload_n 2, 1) := by decide +kernel
theorem dX12_hand_10 : decode cX12_hand 10 = .ok (.iconst 0, 1) := by decide +kernel
theorem dX12_hand_11 : decode cX12_hand 11 = .ok (.iconst 3, 1) := by decide +kernel
theorem dX12_hand_12 : decode cX12_hand 12 = .ok (.invokestatic 224, 3) := by decide +kernel
theorem dX12_hand_15 : decode cX12_hand 15 = .ok (.ifCond .eq 7, 3) := by decide +kernel
theorem dX12_hand_18 : decode cX12_hand 18 = .ok (.iconst 0, 1) := by decide +kernel
theorem dX12_hand_19 : decode cX12_hand 19 = .ok (.goto 4, 3) := by decide +kernel
theorem dX12_hand_22 : decode cX12_hand 22 = .ok (.iconst 1, 1) := by decide +kernel
theorem dX12_hand_23 : decode cX12_hand 23 = .ok (.putfield 109, 3) := by decide +kernel
theorem dX12_hand_26 : decode cX12_hand 26 = .ok (.aload_n 0, 1) := by decide +kernel
theorem dX12_hand_27 : decode cX12_hand 27 = .ok (.getfield 109, 3) := by decide +kernel
theorem dX12_hand_30 : decode cX12_hand 30 = .ok (.iconst 1, 1) := by decide +kernel
theorem dX12_hand_31 : decode cX12_hand 31 = .ok (.if_icmp .ne 5, 3) := by decide +kernel
theorem dX12_hand_34 : decode cX12_hand 34 = .ok (.iconst 0, 1) := by decide +kernel
theorem dX12_hand_35 : decode cX12_hand 35 = .ok (.ireturn, 1) := by decide +kernel
theorem dX12_hand_36 : decode cX12_hand 36 = .ok (.iload_n 2, 1) := by decide +kernel
theorem dX12_hand_37 : decode cX12_hand 37 = .ok (.iconst 2, 1) := by decide +kernel
theorem dX12_hand_38 : decode cX12_hand 38 = .ok (.if_icmp .ge 16, 3) := by decide +kernel
theorem dX12_hand_41 : decode cX12_hand 41 = .ok (.aload_n 0, 1) := by decide +kernel
theorem dX12_hand_42 : decode cX12_hand 42 = .ok (.getfield 49, 3) := by decide +kernel
theorem dX12_hand_45 : decode cX12_hand 45 = .ok (.iconst 2, 1) := by decide +kernel
theorem dX12_hand_46 : decode cX12_hand 46 = .ok (.iload_n 1, 1) := by decide +kernel
theorem dX12_hand_47 : decode cX12_hand 47 = .ok (.imul, 1) := by decide +kernel
theorem dX12_hand_48 : decode cX12_hand 48 = .ok (.iload_n 2, 1) := by decide +kernel
theorem dX12_hand_49 : decode cX12_hand 49 = .ok (.iadd, 1) := by decide +kernel
theorem dX12_hand_50 : decode cX12_hand 50 = .ok (.iaload, 1) := by decide +kernel
theorem dX12_hand_51 : decode cX12_hand 51 = .ok (.goto 11, 3) := by decide +kernel
theorem dX12_hand_54 : decode cX12_hand 54 = .ok (.aload_n 0, 1) := by decide +kernel
theorem dX12_hand_55 : decode cX12_hand 55 = .ok (.iload_n 1, 1) := by decide +kernel
theorem dX12_hand_56 : decode cX12_hand 56 = .ok (.iload_n 2, 1) := by decide +kernel
theorem dX12_hand_57 : decode cX12_hand 57 = .ok (.iconst 2, 1) := by decide +kernel
theorem dX12_hand_58 : decode cX12_hand 58 = .ok (.isub, 1) := by decide +kernel
theorem dX12_hand_59 : decode cX12_hand 59 = .ok (.invokevirtual 298, 3) := by decide +kernel
theorem dX12_hand_62 : decode cX12_hand 62 = .ok (.ireturn, 1) := by decide +kernel
set_option maxRecDepth 20000 in
def kX12_hand_0 (g : sk_G) (d ck sk : Nat) (Q : sk_P) : sk_K := o_aload 0 (o_aload 0 (o_iload 1 (o_invB (g, d, ck, sk, xX12_hand, Q) xX12_isHand 1 12 0 0 (o_ifeq (o_i (1) (sk_B (g, d, ck, sk, xX12_hand, Q) 23)) (o_iload 2 (o_i (0) (o_i (3) (o_stcB (g, d, ck, sk, xX12_hand, Q) xX12_in 3 0 0 (o_ifeq (o_i (1) (sk_B (g, d, ck, sk, xX12_hand, Q) 23)) (o_i (0) (sk_B (g, d, ck, sk, xX12_hand, Q) 23)))))))))))
set_option maxRecDepth 20000 in
theorem tX12_hand_0 {g : sk_G} {d ck sk : Nat} {Q : sk_P} : sk_S (g, d, ck, sk, xX12_hand, Q) 0 (kX12_hand_0 g d ck sk Q) := s_aload_n dX12_hand_0 rfl (s_aload_n dX12_hand_1 rfl (s_iload_n dX12_hand_2 rfl (s_invB (w' := (g, d, ck, sk, xX12_hand, Q)) (ci := 12) (ck := 0) (sk := 0) (T := TX12) (N := 49) dX12_hand_3 m_X12_isHand rfl (by decide) qm_X12_352 qi_X12_isHand qe_X12_isHand rfl (s_ifeq (tgt := 22) dX12_hand_6 (by decide) (s_iconst dX12_hand_22 (sk_id)) (s_iload_n dX12_hand_9 rfl (s_iconst dX12_hand_10 (s_iconst dX12_hand_11 (s_stcB (w' := (g, d, ck, sk, xX12_hand, Q)) (ck := 0) (sk := 0) dX12_hand_12 m_X12_in qm_X12_224 qs_X12_in rfl (s_ifeq (tgt := 22) dX12_hand_15 (by decide) (s_iconst dX12_hand_22 (sk_id)) (s_iconst dX12_hand_18 (s_goto (tgt := 23) dX12_hand_19 (by decide) (sk_id))))))))))))
set_option maxRecDepth 20000 in
def kX12_hand_23 (g : sk_G) (d ck sk : Nat) (Q : sk_P) : sk_K := o_puti 12 0 (o_aload 0 (o_getf 12 0 (o_i (1) (o_icne (o_iload 2 (o_i (2) (o_icge (o_aload 0 (o_iload 1 (o_iload 2 (o_i (2) (o_isub (o_invB (g, d, ck, sk, xX12_hand, Q) xX12_ofHand 2 12 0 0 (o_iret (g, d, ck, sk, xX12_hand, Q)))))))) (o_aload 0 (o_getf 12 21 (o_i (2) (o_iload 1 (o_imul (o_iload 2 (o_iadd (o_iaload (o_iret (g, d, ck, sk, xX12_hand, Q))))))))))))) (o_i (0) (o_iret (g, d, ck, sk, xX12_hand, Q)))))))
set_option maxRecDepth 20000 in
theorem tX12_hand_23 {g : sk_G} {d ck sk : Nat} {Q : sk_P} : sk_S (g, d, ck, sk, xX12_hand, Q) 23 (kX12_hand_23 g d ck sk Q) := s_puti (ci := 12) (j := 0) (C := RX12) (T := TX12) (N := 49) dX12_hand_23 rfl (by decide) (by decide) rfl (tyX12_ok 0 (by decide)) qf_X12_109 (s_aload_n dX12_hand_26 rfl (s_getf (ci := 12) (j := 0) (C := RX12) (T := TX12) (N := 49) dX12_hand_27 rfl (by decide) (by decide) qf_X12_109 (s_iconst dX12_hand_30 (s_icne (tgt := 36) dX12_hand_31 (by decide) (s_iload_n dX12_hand_36 rfl (s_iconst dX12_hand_37 (s_icge (tgt := 54) dX12_hand_38 (by decide) (s_aload_n dX12_hand_54 rfl (s_iload_n dX12_hand_55 rfl (s_iload_n dX12_hand_56 rfl (s_iconst dX12_hand_57 (s_isub dX12_hand_58 (s_invB (w' := (g, d, ck, sk, xX12_hand, Q)) (ci := 12) (ck := 0) (sk := 0) (T := TX12) (N := 49) dX12_hand_59 m_X12_ofHand rfl (by decide) qm_X12_298 qi_X12_ofHand qe_X12_ofHand rfl (s_iret dX12_hand_62 rfl))))))) (s_aload_n dX12_hand_41 rfl (s_getf (ci := 12) (j := 21) (C := RX12) (T := TX12) (N := 49) dX12_hand_42 rfl (by decide) (by decide) qf_X12_49 (s_iconst dX12_hand_45 (s_iload_n dX12_hand_46 rfl (s_imul dX12_hand_47 (s_iload_n dX12_hand_48 rfl (s_iadd dX12_hand_49 (s_iaload dX12_hand_50 (s_goto (tgt := 62) dX12_hand_51 (by decide) (s_iret dX12_hand_62 rfl))))))))))))) (s_iconst dX12_hand_34 (s_iret dX12_hand_35 rfl))))))
theorem dX12_isHand_0 : decode cX12_isHand 0 = .ok (.iload_n 1, 1) := by decide +kernel
theorem dX12_isHand_1 : decode cX12_isHand 1 = .ok (.iconst 0, 1) := by decide +kernel
theorem dX12_isHand_2 : decode cX12_isHand 2 = .ok (.aload_n 0, 1) := by decide +kernel
theorem dX12_isHand_3 : decode cX12_isHand 3 = .ok (.getfield 270, 3) := by decide +kernel
theorem dX12_isHand_6 : decode cX12_isHand 6 = .ok (.iconst 1, 1) := by decide +kernel
theorem dX12_isHand_7 : decode cX12_isHand 7 = .ok (.isub, 1) := by decide +kernel
theorem dX12_isHand_8 : decode cX12_isHand 8 = .ok (.invokestatic 224, 3) := by decide +kernel
theorem dX12_isHand_11 : decode cX12_isHand 11 = .ok (.ireturn, 1) := by decide +kernel
def kX12_isHand_0 (g : sk_G) (d ck sk : Nat) (Q : sk_P) : sk_K := o_iload 1 (o_i (0) (o_aload 0 (o_getf 12 22 (o_i (1) (o_isub (o_stcB (g, d, ck, sk, xX12_isHand, Q) xX12_in 3 0 0 (o_zret (g, d, ck, sk, xX12_isHand, Q))))))))
theorem tX12_isHand_0 {g : sk_G} {d ck sk : Nat} {Q : sk_P} : sk_S (g, d, ck, sk, xX12_isHand, Q) 0 (kX12_isHand_0 g d ck sk Q) := s_iload_n dX12_isHand_0 rfl (s_iconst dX12_isHand_1 (s_aload_n dX12_isHand_2 rfl (s_getf (ci := 12) (j := 22) (C := RX12) (T := TX12) (N := 49) dX12_isHand_3 rfl (by decide) (by decide) qf_X12_270 (s_iconst dX12_isHand_6 (s_isub dX12_isHand_7 (s_stcB (w' := (g, d, ck, sk, xX12_isHand, Q)) (ck := 0) (sk := 0) dX12_isHand_8 m_X12_in qm_X12_224 qs_X12_in rfl (s_zret dX12_isHand_11 rfl)))))))
theorem dX12_ofHand_0 : decode cX12_ofHand 0 = .ok (.iconst 0, 1) := by decide +kernel
theorem dX12_ofHand_1 : decode cX12_ofHand 1 = .ok (.istore_n 3, 1) := by decide +kernel
theorem dX12_ofHand_2 : decode cX12_ofHand 2 = .ok (.iconst 0, 1) := by decide +kernel
theorem dX12_ofHand_3 : decode cX12_ofHand 3 = .ok (.istore 4, 2) := by decide +kernel
theorem dX12_ofHand_5 : decode cX12_ofHand 5 = .ok (.iload 4, 2) := by decide +kernel
theorem dX12_ofHand_7 : decode cX12_ofHand 7 = .ok (.aload_n 0, 1) := by decide +kernel
theorem dX12_ofHand_8 : decode cX12_ofHand 8 = .ok (.getfield 273, 3) := by decide +kernel
theorem dX12_ofHand_11 : decode cX12_ofHand 11 = .ok (.if_icmp .ge 69, 3) := by decide +kernel
theorem dX12_ofHand_14 : decode cX12_ofHand 14 = .ok (.iconst 0, 1) := by decide +kernel
theorem dX12_ofHand_15 : decode cX12_ofHand 15 = .ok (.istore 5, 2) := by decide +kernel
theorem dX12_ofHand_17 : decode cX12_ofHand 17 = .ok (.iload 5, 2) := by decide +kernel
theorem dX12_ofHand_19 : decode cX12_ofHand 19 = .ok (.aload_n 0, 1) := by decide +kernel
theorem dX12_ofHand_20 : decode cX12_ofHand 20 = .ok (.getfield 61, 3) := by decide +kernel
theorem dX12_ofHand_23 : decode cX12_ofHand 23 = .ok (.iconst 0, 1) := by decide +kernel
theorem dX12_ofHand_24 : decode cX12_ofHand 24 = .ok (.iload 4, 2) := by decide +kernel
theorem dX12_ofHand_26 : decode cX12_ofHand 26 = .ok (.iadd, 1) := by decide +kernel
theorem dX12_ofHand_27 : decode cX12_ofHand 27 = .ok (.iaload, 1) := by decide +kernel
theorem dX12_ofHand_28 : decode cX12_ofHand 28 = .ok (.if_icmp .ge 46, 3) := by decide +kernel
theorem dX12_ofHand_31 : decode cX12_ofHand 31 = .ok (.iload_n 3, 1) := by decide +kernel
theorem dX12_ofHand_32 : decode cX12_ofHand 32 = .ok (.aload_n 0, 1) := by decide +kernel
theorem dX12_ofHand_33 : decode cX12_ofHand 33 = .ok (.iload 4, 2) := by decide +kernel
theorem dX12_ofHand_35 : decode cX12_ofHand 35 = .ok (.iload 5, 2) := by decide +kernel
theorem dX12_ofHand_37 : decode cX12_ofHand 37 = .ok (.iconst 1, 1) := by decide +kernel
theorem dX12_ofHand_38 : decode cX12_ofHand 38 = .ok (.invokevirtual 295, 3) := by decide +kernel
theorem dX12_ofHand_41 : decode cX12_ofHand 41 = .ok (.iload_n 1, 1) := by decide +kernel
theorem dX12_ofHand_42 : decode cX12_ofHand 42 = .ok (.if_icmp .eq 7, 3) := by decide +kernel
theorem dX12_ofHand_45 : decode cX12_ofHand 45 = .ok (.iconst 0, 1) := by decide +kernel
theorem dX12_ofHand_46 : decode cX12_ofHand 46 = .ok (.goto 20, 3) := by decide +kernel
theorem dX12_ofHand_49 : decode cX12_ofHand 49 = .ok (.iload_n 2, 1) := by decide +kernel
theorem dX12_ofHand_50 : decode cX12_ofHand 50 = .ok (.ifCond .ne 7, 3) := by decide +kernel
theorem dX12_ofHand_53 : decode cX12_ofHand 53 = .ok (.iconst 1, 1) := by decide +kernel
theorem dX12_ofHand_54 : decode cX12_ofHand 54 = .ok (.goto 12, 3) := by decide +kernel
theorem dX12_ofHand_57 : decode cX12_ofHand 57 = .ok (.aload_n 0, 1) := by decide +kernel
theorem dX12_ofHand_58 : decode cX12_ofHand 58 = .ok (.iload 4, 2) := by decide +kernel
theorem dX12_ofHand_60 : decode cX12_ofHand 60 = .ok (.iload 5, 2) := by decide +kernel
theorem dX12_ofHand_62 : decode cX12_ofHand 62 = .ok (.iconst 2, 1) := by decide +kernel
theorem dX12_ofHand_63 : decode cX12_ofHand 63 = .ok (.invokevirtual 295, 3) := by decide +kernel
theorem dX12_ofHand_66 : decode cX12_ofHand 66 = .ok (.iadd, 1) := by decide +kernel
theorem dX12_ofHand_67 : decode cX12_ofHand 67 = .ok (.istore_n 3, 1) := by decide +kernel
theorem dX12_ofHand_68 : decode cX12_ofHand 68 = .ok (.iinc 5 1, 3) := by decide +kernel
theorem dX12_ofHand_71 : decode cX12_ofHand 71 = .ok (.goto (-54), 3) := by decide +kernel
theorem dX12_ofHand_74 : decode cX12_ofHand 74 = .ok (.iinc 4 1, 3) := by decide +kernel
theorem dX12_ofHand_77 : decode cX12_ofHand 77 = .ok (.goto (-72), 3) := by decide +kernel
theorem dX12_ofHand_80 : decode cX12_ofHand 80 = .ok (.iload_n 3, 1) := by decide +kernel
theorem dX12_ofHand_81 : decode cX12_ofHand 81 = .ok (.ireturn, 1) := by decide +kernel
def kX12_ofHand_0 (g : sk_G) (d ck sk : Nat) (Q : sk_P) : sk_K := o_i (0) (o_istore 3 (o_i (0) (o_istore 4 (sk_B (g, d, ck, sk, xX12_ofHand, Q) 5))))
theorem tX12_ofHand_0 {g : sk_G} {d ck sk : Nat} {Q : sk_P} : sk_S (g, d, ck, sk, xX12_ofHand, Q) 0 (kX12_ofHand_0 g d ck sk Q) := s_iconst dX12_ofHand_0 (s_istore_n dX12_ofHand_1 rfl (by decide : 3 < 6) (s_iconst dX12_ofHand_2 (s_istore dX12_ofHand_3 (by decide : 4 < 6) (sk_id))))
def kX12_ofHand_5 (g : sk_G) (d ck sk : Nat) (Q : sk_P) : sk_K := o_iload 4 (o_aload 0 (o_getf 12 23 (o_icge (o_iload 3 (o_iret (g, d, ck, sk, xX12_ofHand, Q))) (o_i (0) (o_istore 5 (sk_B (g, d, ck, sk, xX12_ofHand, Q) 17))))))
theorem tX12_ofHand_5 {g : sk_G} {d ck sk : Nat} {Q : sk_P} : sk_S (g, d, ck, sk, xX12_ofHand, Q) 5 (kX12_ofHand_5 g d ck sk Q) := s_iload dX12_ofHand_5 (s_aload_n dX12_ofHand_7 rfl (s_getf (ci := 12) (j := 23) (C := RX12) (T := TX12) (N := 49) dX12_ofHand_8 rfl (by decide) (by decide) qf_X12_273 (s_icge (tgt := 80) dX12_ofHand_11 (by decide) (s_iload_n dX12_ofHand_80 rfl (s_iret dX12_ofHand_81 rfl)) (s_iconst dX12_ofHand_14 (s_istore dX12_ofHand_15 (by decide : 5 < 6) (sk_id))))))
set_option maxRecDepth 20000 in
def kX12_ofHand_17 (g : sk_G) (d ck sk : Nat) (Q : sk_P) : sk_K := o_iload 5 (o_aload 0 (o_getf 12 28 (o_i (0) (o_iload 4 (o_iadd (o_iaload (o_icge (o_iinc 4 (1) (sk_B (g, d, ck, sk, xX12_ofHand, Q) 5)) (o_iload 3 (o_aload 0 (o_iload 4 (o_iload 5 (o_i (1) (o_invB (g, d, ck, sk, xX12_ofHand, Q) xX12_of 3 12 0 0 (o_iload 1 (o_iceq (o_iload 2 (o_ifne (o_aload 0 (o_iload 4 (o_iload 5 (o_i (2) (o_invB (g, d, ck, sk, xX12_ofHand, Q) xX12_of 3 12 0 0 (o_iadd (o_istore 3 (o_iinc 5 (1) (sk_B (g, d, ck, sk, xX12_ofHand, Q) 17))))))))) (o_i (1) (o_iadd (o_istore 3 (o_iinc 5 (1) (sk_B (g, d, ck, sk, xX12_ofHand, Q) 17))))))) (o_i (0) (o_iadd (o_istore 3 (o_iinc 5 (1) (sk_B (g, d, ck, sk, xX12_ofHand, Q) 17))))))))))))))))))))
set_option maxRecDepth 20000 in
theorem tX12_ofHand_17 {g : sk_G} {d ck sk : Nat} {Q : sk_P} : sk_S (g, d, ck, sk, xX12_ofHand, Q) 17 (kX12_ofHand_17 g d ck sk Q) := s_iload dX12_ofHand_17 (s_aload_n dX12_ofHand_19 rfl (s_getf (ci := 12) (j := 28) (C := RX12) (T := TX12) (N := 49) dX12_ofHand_20 rfl (by decide) (by decide) qf_X12_61 (s_iconst dX12_ofHand_23 (s_iload dX12_ofHand_24 (s_iadd dX12_ofHand_26 (s_iaload dX12_ofHand_27 (s_icge (tgt := 74) dX12_ofHand_28 (by decide) (s_iinc dX12_ofHand_74 (by decide : 4 < 6) (s_goto (tgt := 5) dX12_ofHand_77 (by decide) (sk_id))) (s_iload_n dX12_ofHand_31 rfl (s_aload_n dX12_ofHand_32 rfl (s_iload dX12_ofHand_33 (s_iload dX12_ofHand_35 (s_iconst dX12_ofHand_37 (s_invB (w' := (g, d, ck, sk, xX12_ofHand, Q)) (ci := 12) (ck := 0) (sk := 0) (T := TX12) (N := 49) dX12_ofHand_38 m_X12_of rfl (by decide) qm_X12_295 qi_X12_of qe_X12_of rfl (s_iload_n dX12_ofHand_41 rfl (s_iceq (tgt := 49) dX12_ofHand_42 (by decide) (s_iload_n dX12_ofHand_49 rfl (s_ifne (tgt := 57) dX12_ofHand_50 (by decide) (s_aload_n dX12_ofHand_57 rfl (s_iload dX12_ofHand_58 (s_iload dX12_ofHand_60 (s_iconst dX12_ofHand_62 (s_invB (w' := (g, d, ck, sk, xX12_ofHand, Q)) (ci := 12) (ck := 0) (sk := 0) (T := TX12) (N := 49) dX12_ofHand_63 m_X12_of rfl (by decide) qm_X12_295 qi_X12_of qe_X12_of rfl (s_iadd dX12_ofHand_66 (s_istore_n dX12_ofHand_67 rfl (by decide : 3 < 6) (s_iinc dX12_ofHand_68 (by decide : 5 < 6) (s_goto (tgt := 17) dX12_ofHand_71 (by decide) (sk_id)))))))))) (s_iconst dX12_ofHand_53 (s_goto (tgt := 66) dX12_ofHand_54 (by decide) (s_iadd dX12_ofHand_66 (s_istore_n dX12_ofHand_67 rfl (by decide : 3 < 6) (s_iinc dX12_ofHand_68 (by decide : 5 < 6) (s_goto (tgt := 17) dX12_ofHand_71 (by decide) (sk_id))))))))) (s_iconst dX12_ofHand_45 (s_goto (tgt := 66) dX12_ofHand_46 (by decide) (s_iadd dX12_ofHand_66 (s_istore_n dX12_ofHand_67 rfl (by decide : 3 < 6) (s_iinc dX12_ofHand_68 (by decide : 5 < 6) (s_goto (tgt := 17) dX12_ofHand_71 (by decide) (sk_id))))))))))))))))))))))
theorem dX12_of_0 : decode cX12_of 0 = .ok (.aload_n 0, 1) := by decide +kernel
theorem dX12_of_1 : decode cX12_of 1 = .ok (.getfield 61, 3) := by decide +kernel
theorem dX12_of_4 : decode cX12_of 4 = .ok (.bipush 40, 2) := by decide +kernel
theorem dX12_of_6 : decode cX12_of 6 = .ok (.iconst 3, 1) := by decide +kernel
theorem dX12_of_7 : decode cX12_of 7 = .ok (.bipush 6, 2) := by decide +kernel
theorem dX12_of_9 : decode cX12_of 9 = .ok (.iload_n 1, 1) := by decide +kernel
theorem dX12_of_10 : decode cX12_of 10 = .ok (.imul, 1) := by decide +kernel
theorem dX12_of_11 : decode cX12_of 11 = .ok (.iload_n 2, 1) := by decide +kernel
theorem dX12_of_12 : decode cX12_of 12 = .ok (.iadd, 1) := by decide +kernel
theorem dX12_of_13 : decode cX12_of 13 = .ok (.imul, 1) := by decide +kernel
theorem dX12_of_14 : decode cX12_of 14 = .ok (.iadd, 1) := by decide +kernel
theorem dX12_of_15 : decode cX12_of 15 = .ok (.iload_n 3, 1) := by decide +kernel
theorem dX12_of_16 : decode cX12_of 16 = .ok (.iadd, 1) := by decide +kernel
theorem dX12_of_17 : decode cX12_of 17 = .ok (.iaload, 1) := by decide +kernel
theorem dX12_of_18 : decode cX12_of 18 = .ok (.ireturn, 1) := by decide +kernel
def kX12_of_0 (g : sk_G) (d ck sk : Nat) (Q : sk_P) : sk_K := o_aload 0 (o_getf 12 28 (o_i (40) (o_i (3) (o_i (6) (o_iload 1 (o_imul (o_iload 2 (o_iadd (o_imul (o_iadd (o_iload 3 (o_iadd (o_iaload (o_iret (g, d, ck, sk, xX12_of, Q)))))))))))))))
theorem tX12_of_0 {g : sk_G} {d ck sk : Nat} {Q : sk_P} : sk_S (g, d, ck, sk, xX12_of, Q) 0 (kX12_of_0 g d ck sk Q) := s_aload_n dX12_of_0 rfl (s_getf (ci := 12) (j := 28) (C := RX12) (T := TX12) (N := 49) dX12_of_1 rfl (by decide) (by decide) qf_X12_61 (s_bipush dX12_of_4 rfl (s_iconst dX12_of_6 (s_bipush dX12_of_7 rfl (s_iload_n dX12_of_9 rfl (s_imul dX12_of_10 (s_iload_n dX12_of_11 rfl (s_iadd dX12_of_12 (s_imul dX12_of_13 (s_iadd dX12_of_14 (s_iload_n dX12_of_15 rfl (s_iadd dX12_of_16 (s_iaload dX12_of_17 (s_iret dX12_of_18 rfl))))))))))))))
theorem dX12_sign_0 : decode cX12_sign 0 = .ok (.iload_n 1, 1) := by decide +kernel
theorem dX12_sign_1 : decode cX12_sign 1 = .ok (.iconst 0, 1) := by decide +kernel
theorem dX12_sign_2 : decode cX12_sign 2 = .ok (.aload_n 0, 1) := by decide +kernel
theorem dX12_sign_3 : decode cX12_sign 3 = .ok (.getfield 292, 3) := by decide +kernel
theorem dX12_sign_6 : decode cX12_sign 6 = .ok (.iconst 1, 1) := by decide +kernel
theorem dX12_sign_7 : decode cX12_sign 7 = .ok (.isub, 1) := by decide +kernel
theorem dX12_sign_8 : decode cX12_sign 8 = .ok (.invokestatic 224, 3) := by decide +kernel
theorem dX12_sign_11 : decode cX12_sign 11 = .ok (.ifCond .eq 12, 3) := by decide +kernel
theorem dX12_sign_14 : decode cX12_sign 14 = .ok (.iload_n 2, 1) := by decide +kernel
theorem dX12_sign_15 : decode cX12_sign 15 = .ok (.iconst 0, 1) := by decide +kernel
theorem dX12_sign_16 : decode cX12_sign 16 = .ok (.iconst 3, 1) := by decide +kernel
theorem dX12_sign_17 : decode cX12_sign 17 = .ok (.invokestatic 224, 3) := by decide +kernel
theorem dX12_sign_20 : decode cX12_sign 20 = .ok (.ifCond .ne 5, 3) := by decide +kernel
theorem dX12_sign_23 : decode cX12_sign 23 = .ok (.iconst (-1), 1) := by decide +kernel
theorem dX12_sign_24 : decode cX12_sign 24 = .ok (.ireturn, 1) := by decide +kernel
theorem dX12_sign_25 : decode cX12_sign 25 = .ok (.iconst 0, 1) := by decide +kernel
theorem dX12_sign_26 : decode cX12_sign 26 = .ok (.istore 4, 2) := by decide +kernel
theorem dX12_sign_28 : decode cX12_sign 28 = .ok (.iload 4, 2) := by decide +kernel
theorem dX12_sign_30 : decode cX12_sign 30 = .ok (.aload_n 0, 1) := by decide +kernel
theorem dX12_sign_31 : decode cX12_sign 31 = .ok (.getfield 55, 3) := by decide +kernel
theorem dX12_sign_34 : decode cX12_sign 34 = .ok (.iload_n 1, 1) := by decide +kernel
theorem dX12_sign_35 : decode cX12_sign 35 = .ok (.iaload, 1) := by decide +kernel
theorem dX12_sign_36 : decode cX12_sign 36 = .ok (.if_icmp .ge 54, 3) := by decide +kernel
theorem dX12_sign_39 : decode cX12_sign 39 = .ok (.iconst 3, 1) := by decide +kernel
theorem dX12_sign_40 : decode cX12_sign 40 = .ok (.bipush 16, 2) := by decide +kernel
theorem dX12_sign_42 : decode cX12_sign 42 = .ok (.iload_n 1, 1) := by decide +kernel
theorem dX12_sign_43 : decode cX12_sign 43 = .ok (.imul, 1) := by decide +kernel
theorem dX12_sign_44 : decode cX12_sign 44 = .ok (.iload 4, 2) := by decide +kernel
theorem dX12_sign_46 : decode cX12_sign 46 = .ok (.iadd, 1) := by decide +kernel
theorem dX12_sign_47 : decode cX12_sign 47 = .ok (.imul, 1) := by decide +kernel
theorem dX12_sign_48 : decode cX12_sign 48 = .ok (.istore 5, 2) := by decide +kernel
theorem dX12_sign_50 : decode cX12_sign 50 = .ok (.aload_n 0, 1) := by decide +kernel
theorem dX12_sign_51 : decode cX12_sign 51 = .ok (.getfield 52, 3) := by decide +kernel
theorem dX12_sign_54 : decode cX12_sign 54 = .ok (.iload 5, 2) := by decide +kernel
theorem dX12_sign_56 : decode cX12_sign 56 = .ok (.iconst 1, 1) := by decide +kernel
theorem dX12_sign_57 : decode cX12_sign 57 = .ok (.iadd, 1) := by decide +kernel
theorem dX12_sign_58 : decode cX12_sign 58 = .ok (.iaload, 1) := by decide +kernel
theorem dX12_sign_59 : decode cX12_sign 59 = .ok (.iload_n 2, 1) := by decide +kernel
theorem dX12_sign_60 : decode cX12_sign 60 = .ok (.if_icmp .ne 24, 3) := by decide +kernel
theorem dX12_sign_63 : decode cX12_sign 63 = .ok (.aload_n 0, 1) := by decide +kernel
theorem dX12_sign_64 : decode cX12_sign 64 = .ok (.getfield 52, 3) := by decide +kernel
theorem dX12_sign_67 : decode cX12_sign 67 = .ok (.iload 5, 2) := by decide +kernel
theorem dX12_sign_69 : decode cX12_sign 69 = .ok (.iconst 2, 1) := by decide +kernel
theorem dX12_sign_70 : decode cX12_sign 70 = .ok (.iadd, 1) := by decide +kernel
theorem dX12_sign_71 : decode cX12_sign 71 = .ok (.iaload, 1) := by decide +kernel
theorem dX12_sign_72 : decode cX12_sign 72 = .ok (.iload_n 3, 1) := by decide +kernel
theorem dX12_sign_73 : decode cX12_sign 73 = .ok (.if_icmp .ne 11, 3) := by decide +kernel
theorem dX12_sign_76 : decode cX12_sign 76 = .ok (.aload_n 0, 1) := by decide +kernel
theorem dX12_sign_77 : decode cX12_sign 77 = .ok (.getfield 52, 3) := by decide +kernel
theorem dX12_sign_80 : decode cX12_sign 80 = .ok (.iload 5, 2) := by decide +kernel
theorem dX12_sign_82 : decode cX12_sign 82 = .ok (.iaload, 1) := by decide +kernel
theorem dX12_sign_83 : decode cX12_sign 83 = .ok (.ireturn, 1) := by decide +kernel
theorem dX12_sign_84 : decode cX12_sign 84 = .ok (.iinc 4 1, 3) := by decide +kernel
theorem dX12_sign_87 : decode cX12_sign 87 = .ok (.goto (-59), 3) := by decide +kernel
theorem dX12_sign_90 : decode cX12_sign 90 = .ok (.iconst (-1), 1) := by decide +kernel
theorem dX12_sign_91 : decode cX12_sign 91 = .ok (.ireturn, 1) := by decide +kernel
set_option maxRecDepth 20000 in
def kX12_sign_0 (g : sk_G) (d ck sk : Nat) (Q : sk_P) : sk_K := o_iload 1 (o_i (0) (o_aload 0 (o_getf 12 27 (o_i (1) (o_isub (o_stcB (g, d, ck, sk, xX12_sign, Q) xX12_in 3 0 0 (o_ifeq (o_i (-1) (o_iret (g, d, ck, sk, xX12_sign, Q))) (o_iload 2 (o_i (0) (o_i (3) (o_stcB (g, d, ck, sk, xX12_sign, Q) xX12_in 3 0 0 (o_ifne (o_i (0) (o_istore 4 (sk_B (g, d, ck, sk, xX12_sign, Q) 28))) (o_i (-1) (o_iret (g, d, ck, sk, xX12_sign, Q)))))))))))))))
set_option maxRecDepth 20000 in
theorem tX12_sign_0 {g : sk_G} {d ck sk : Nat} {Q : sk_P} : sk_S (g, d, ck, sk, xX12_sign, Q) 0 (kX12_sign_0 g d ck sk Q) := s_iload_n dX12_sign_0 rfl (s_iconst dX12_sign_1 (s_aload_n dX12_sign_2 rfl (s_getf (ci := 12) (j := 27) (C := RX12) (T := TX12) (N := 49) dX12_sign_3 rfl (by decide) (by decide) qf_X12_292 (s_iconst dX12_sign_6 (s_isub dX12_sign_7 (s_stcB (w' := (g, d, ck, sk, xX12_sign, Q)) (ck := 0) (sk := 0) dX12_sign_8 m_X12_in qm_X12_224 qs_X12_in rfl (s_ifeq (tgt := 23) dX12_sign_11 (by decide) (s_iconst dX12_sign_23 (s_iret dX12_sign_24 rfl)) (s_iload_n dX12_sign_14 rfl (s_iconst dX12_sign_15 (s_iconst dX12_sign_16 (s_stcB (w' := (g, d, ck, sk, xX12_sign, Q)) (ck := 0) (sk := 0) dX12_sign_17 m_X12_in qm_X12_224 qs_X12_in rfl (s_ifne (tgt := 25) dX12_sign_20 (by decide) (s_iconst dX12_sign_25 (s_istore dX12_sign_26 (by decide : 4 < 6) (sk_id))) (s_iconst dX12_sign_23 (s_iret dX12_sign_24 rfl))))))))))))))
set_option maxRecDepth 20000 in
def kX12_sign_28 (g : sk_G) (d ck sk : Nat) (Q : sk_P) : sk_K := o_iload 4 (o_aload 0 (o_getf 12 25 (o_iload 1 (o_iaload (o_icge (o_i (-1) (o_iret (g, d, ck, sk, xX12_sign, Q))) (o_i (3) (o_i (16) (o_iload 1 (o_imul (o_iload 4 (o_iadd (o_imul (o_istore 5 (o_aload 0 (o_getf 12 24 (o_iload 5 (o_i (1) (o_iadd (o_iaload (o_iload 2 (o_icne (o_iinc 4 (1) (sk_B (g, d, ck, sk, xX12_sign, Q) 28)) (o_aload 0 (o_getf 12 24 (o_iload 5 (o_i (2) (o_iadd (o_iaload (o_iload 3 (o_icne (o_iinc 4 (1) (sk_B (g, d, ck, sk, xX12_sign, Q) 28)) (o_aload 0 (o_getf 12 24 (o_iload 5 (o_iaload (o_iret (g, d, ck, sk, xX12_sign, Q)))))))))))))))))))))))))))))))))))
set_option maxRecDepth 20000 in
theorem tX12_sign_28 {g : sk_G} {d ck sk : Nat} {Q : sk_P} : sk_S (g, d, ck, sk, xX12_sign, Q) 28 (kX12_sign_28 g d ck sk Q) := s_iload dX12_sign_28 (s_aload_n dX12_sign_30 rfl (s_getf (ci := 12) (j := 25) (C := RX12) (T := TX12) (N := 49) dX12_sign_31 rfl (by decide) (by decide) qf_X12_55 (s_iload_n dX12_sign_34 rfl (s_iaload dX12_sign_35 (s_icge (tgt := 90) dX12_sign_36 (by decide) (s_iconst dX12_sign_90 (s_iret dX12_sign_91 rfl)) (s_iconst dX12_sign_39 (s_bipush dX12_sign_40 rfl (s_iload_n dX12_sign_42 rfl (s_imul dX12_sign_43 (s_iload dX12_sign_44 (s_iadd dX12_sign_46 (s_imul dX12_sign_47 (s_istore dX12_sign_48 (by decide : 5 < 6) (s_aload_n dX12_sign_50 rfl (s_getf (ci := 12) (j := 24) (C := RX12) (T := TX12) (N := 49) dX12_sign_51 rfl (by decide) (by decide) qf_X12_52 (s_iload dX12_sign_54 (s_iconst dX12_sign_56 (s_iadd dX12_sign_57 (s_iaload dX12_sign_58 (s_iload_n dX12_sign_59 rfl (s_icne (tgt := 84) dX12_sign_60 (by decide) (s_iinc dX12_sign_84 (by decide : 4 < 6) (s_goto (tgt := 28) dX12_sign_87 (by decide) (sk_id))) (s_aload_n dX12_sign_63 rfl (s_getf (ci := 12) (j := 24) (C := RX12) (T := TX12) (N := 49) dX12_sign_64 rfl (by decide) (by decide) qf_X12_52 (s_iload dX12_sign_67 (s_iconst dX12_sign_69 (s_iadd dX12_sign_70 (s_iaload dX12_sign_71 (s_iload_n dX12_sign_72 rfl (s_icne (tgt := 84) dX12_sign_73 (by decide) (s_iinc dX12_sign_84 (by decide : 4 < 6) (s_goto (tgt := 28) dX12_sign_87 (by decide) (sk_id))) (s_aload_n dX12_sign_76 rfl (s_getf (ci := 12) (j := 24) (C := RX12) (T := TX12) (N := 49) dX12_sign_77 rfl (by decide) (by decide) qf_X12_52 (s_iload dX12_sign_80 (s_iaload dX12_sign_82 (s_iret dX12_sign_83 rfl))))))))))))))))))))))))))))))))))
