theorem dX12_here_0 : decode cX12_here 0 = .ok (.aload_n 0, 1) := by decide +kernel
theorem dX12_here_1 : decode cX12_here 1 = .ok (.getfield 119, 3) := by decide +kernel
theorem dX12_here_4 : decode cX12_here 4 = .ok (.aload_n 0, 1) := by decide +kernel
theorem dX12_here_5 : decode cX12_here 5 = .ok (.getfield 116, 3) := by decide +kernel
theorem dX12_here_8 : decode cX12_here 8 = .ok (.if_icmp .ge 15, 3) := by decide +kernel
theorem dX12_here_11 : decode cX12_here 11 = .ok (.aload_n 0, 1) := by decide +kernel
theorem dX12_here_12 : decode cX12_here 12 = .ok (.getfield 9, 3) := by decide +kernel
theorem dX12_here_15 : decode cX12_here 15 = .ok (.aload_n 0, 1) := by decide +kernel
theorem dX12_here_16 : decode cX12_here 16 = .ok (.getfield 119, 3) := by decide +kernel
theorem dX12_here_19 : decode cX12_here 19 = .ok (.iaload, 1) := by decide +kernel
theorem dX12_here_20 : decode cX12_here 20 = .ok (.goto 4, 3) := by decide +kernel
theorem dX12_here_23 : decode cX12_here 23 = .ok (.iconst (-1), 1) := by decide +kernel
theorem dX12_here_24 : decode cX12_here 24 = .ok (.ireturn, 1) := by decide +kernel
set_option maxRecDepth 20000 in
def kX12_here_0 (g : sk_G) (d ck sk : Nat) (Q : sk_P) : sk_K := o_aload 0 (o_getf 12 3 (o_aload 0 (o_getf 12 2 (o_icge (o_i (-1) (o_iret (g, d, ck, sk, xX12_here, Q))) (o_aload 0 (o_getf 12 1 (o_aload 0 (o_getf 12 3 (o_iaload (o_iret (g, d, ck, sk, xX12_here, Q)))))))))))
set_option maxRecDepth 20000 in
theorem tX12_here_0 {g : sk_G} {d ck sk : Nat} {Q : sk_P} : sk_S (g, d, ck, sk, xX12_here, Q) 0 (kX12_here_0 g d ck sk Q) := s_aload_n dX12_here_0 rfl (s_getf (ci := 12) (j := 3) (C := RX12) (T := TX12) (N := 49) dX12_here_1 rfl (by decide) (by decide) qf_X12_119 (s_aload_n dX12_here_4 rfl (s_getf (ci := 12) (j := 2) (C := RX12) (T := TX12) (N := 49) dX12_here_5 rfl (by decide) (by decide) qf_X12_116 (s_icge (tgt := 23) dX12_here_8 (by decide) (s_iconst dX12_here_23 (s_iret dX12_here_24 rfl)) (s_aload_n dX12_here_11 rfl (s_getf (ci := 12) (j := 1) (C := RX12) (T := TX12) (N := 49) dX12_here_12 rfl (by decide) (by decide) qf_X12_9 (s_aload_n dX12_here_15 rfl (s_getf (ci := 12) (j := 3) (C := RX12) (T := TX12) (N := 49) dX12_here_16 rfl (by decide) (by decide) qf_X12_119 (s_iaload dX12_here_19 (s_goto (tgt := 24) dX12_here_20 (by decide) (s_iret dX12_here_24 rfl)))))))))))
theorem dX12_has_0 : decode cX12_has 0 = .ok (.iload_n 0, 1) := by decide +kernel
theorem dX12_has_1 : decode cX12_has 1 = .ok (.iload_n 1, 1) := by decide +kernel
theorem dX12_has_2 : decode cX12_has 2 = .ok (.ishr, 1) := by decide +kernel
theorem dX12_has_3 : decode cX12_has 3 = .ok (.iconst 1, 1) := by decide +kernel
theorem dX12_has_4 : decode cX12_has 4 = .ok (.iand, 1) := by decide +kernel
theorem dX12_has_5 : decode cX12_has 5 = .ok (.iconst 1, 1) := by decide +kernel
theorem dX12_has_6 : decode cX12_has 6 = .ok (.if_icmp .ne 7, 3) := by decide +kernel
theorem dX12_has_9 : decode cX12_has 9 = .ok (.iconst 1, 1) := by decide +kernel
theorem dX12_has_10 : decode cX12_has 10 = .ok (.goto 4, 3) := by decide +kernel
theorem dX12_has_13 : decode cX12_has 13 = .ok (.iconst 0, 1) := by decide +kernel
theorem dX12_has_14 : decode cX12_has 14 = .ok (.ireturn, 1) := by decide +kernel
def kX12_has_0 (g : sk_G) (d ck sk : Nat) (Q : sk_P) : sk_K := o_iload 0 (o_iload 1 (o_ishr (o_i (1) (o_iand (o_i (1) (o_icne (o_i (0) (o_zret (g, d, ck, sk, xX12_has, Q))) (o_i (1) (o_zret (g, d, ck, sk, xX12_has, Q)))))))))
theorem tX12_has_0 {g : sk_G} {d ck sk : Nat} {Q : sk_P} : sk_S (g, d, ck, sk, xX12_has, Q) 0 (kX12_has_0 g d ck sk Q) := s_iload_n dX12_has_0 rfl (s_iload_n dX12_has_1 rfl (s_ishr dX12_has_2 (s_iconst dX12_has_3 (s_iand dX12_has_4 (s_iconst dX12_has_5 (s_icne (tgt := 13) dX12_has_6 (by decide) (s_iconst dX12_has_13 (s_zret dX12_has_14 rfl)) (s_iconst dX12_has_9 (s_goto (tgt := 14) dX12_has_10 (by decide) (s_zret dX12_has_14 rfl)))))))))
theorem dX12_isDigit_0 : decode cX12_isDigit 0 = .ok (.iload_n 0, 1) := by decide +kernel
theorem dX12_isDigit_1 : decode cX12_isDigit 1 = .ok (.bipush 48, 2) := by decide +kernel
theorem dX12_isDigit_3 : decode cX12_isDigit 3 = .ok (.if_icmp .lt 13, 3) := by decide +kernel
theorem dX12_isDigit_6 : decode cX12_isDigit 6 = .ok (.iload_n 0, 1) := by decide +kernel
theorem dX12_isDigit_7 : decode cX12_isDigit 7 = .ok (.bipush 57, 2) := by decide +kernel
theorem dX12_isDigit_9 : decode cX12_isDigit 9 = .ok (.if_icmp .gt 7, 3) := by decide +kernel
theorem dX12_isDigit_12 : decode cX12_isDigit 12 = .ok (.iconst 1, 1) := by decide +kernel
theorem dX12_isDigit_13 : decode cX12_isDigit 13 = .ok (.goto 4, 3) := by decide +kernel
theorem dX12_isDigit_16 : decode cX12_isDigit 16 = .ok (.iconst 0, 1) := by decide +kernel
theorem dX12_isDigit_17 : decode cX12_isDigit 17 = .ok (.ireturn, 1) := by decide +kernel
def kX12_isDigit_0 (g : sk_G) (d ck sk : Nat) (Q : sk_P) : sk_K := o_iload 0 (o_i (48) (o_iclt (o_i (0) (o_zret (g, d, ck, sk, xX12_isDigit, Q))) (o_iload 0 (o_i (57) (o_icgt (o_i (0) (o_zret (g, d, ck, sk, xX12_isDigit, Q))) (o_i (1) (o_zret (g, d, ck, sk, xX12_isDigit, Q))))))))
theorem tX12_isDigit_0 {g : sk_G} {d ck sk : Nat} {Q : sk_P} : sk_S (g, d, ck, sk, xX12_isDigit, Q) 0 (kX12_isDigit_0 g d ck sk Q) := s_iload_n dX12_isDigit_0 rfl (s_bipush dX12_isDigit_1 rfl (s_iclt (tgt := 16) dX12_isDigit_3 (by decide) (s_iconst dX12_isDigit_16 (s_zret dX12_isDigit_17 rfl)) (s_iload_n dX12_isDigit_6 rfl (s_bipush dX12_isDigit_7 rfl (s_icgt (tgt := 16) dX12_isDigit_9 (by decide) (s_iconst dX12_isDigit_16 (s_zret dX12_isDigit_17 rfl)) (s_iconst dX12_isDigit_12 (s_goto (tgt := 17) dX12_isDigit_13 (by decide) (s_zret dX12_isDigit_17 rfl))))))))
theorem dX12_bad_0 : decode cX12_bad 0 = .ok (.aload_n 0, 1) := by decide +kernel
theorem dX12_bad_1 : decode cX12_bad 1 = .ok (.aload_n 0, 1) := by decide +kernel
theorem dX12_bad_2 : decode cX12_bad 2 = .ok (.getfield 126, 3) := by decide +kernel
theorem dX12_bad_5 : decode cX12_bad 5 = .ok (.iconst (-1), 1) := by decide +kernel
theorem dX12_bad_6 : decode cX12_bad 6 = .ok (.if_icmp .ne 10, 3) := by decide +kernel
theorem dX12_bad_9 : decode cX12_bad 9 = .ok (.aload_n 0, 1) := by decide +kernel
theorem dX12_bad_10 : decode cX12_bad 10 = .ok (.getfield 119, 3) := by decide +kernel
theorem dX12_bad_13 : decode cX12_bad 13 = .ok (.goto 7, 3) := by decide +kernel
theorem dX12_bad_16 : decode cX12_bad 16 = .ok (.aload_n 0, 1) := by decide +kernel
theorem dX12_bad_17 : decode cX12_bad 17 = .ok (.getfield 126, 3) := by decide +kernel
theorem dX12_bad_20 : decode cX12_bad 20 = .ok (.putfield 126, 3) := by decide +kernel
theorem dX12_bad_23 : decode cX12_bad 23 = .ok (.return_, 1) := by decide +kernel
set_option maxRecDepth 20000 in
def kX12_bad_0 (g : sk_G) (d ck sk : Nat) (Q : sk_P) : sk_K := o_aload 0 (o_aload 0 (o_getf 12 4 (o_i (-1) (o_icne (o_aload 0 (o_getf 12 4 (o_puti 12 4 (o_ret (g, d, ck, sk, xX12_bad, Q))))) (o_aload 0 (o_getf 12 3 (o_puti 12 4 (o_ret (g, d, ck, sk, xX12_bad, Q)))))))))
set_option maxRecDepth 20000 in
theorem tX12_bad_0 {g : sk_G} {d ck sk : Nat} {Q : sk_P} : sk_S (g, d, ck, sk, xX12_bad, Q) 0 (kX12_bad_0 g d ck sk Q) := s_aload_n dX12_bad_0 rfl (s_aload_n dX12_bad_1 rfl (s_getf (ci := 12) (j := 4) (C := RX12) (T := TX12) (N := 49) dX12_bad_2 rfl (by decide) (by decide) qf_X12_126 (s_iconst dX12_bad_5 (s_icne (tgt := 16) dX12_bad_6 (by decide) (s_aload_n dX12_bad_16 rfl (s_getf (ci := 12) (j := 4) (C := RX12) (T := TX12) (N := 49) dX12_bad_17 rfl (by decide) (by decide) qf_X12_126 (s_puti (ci := 12) (j := 4) (C := RX12) (T := TX12) (N := 49) dX12_bad_20 rfl (by decide) (by decide) rfl (tyX12_ok 4 (by decide)) qf_X12_126 (s_ret dX12_bad_23 rfl)))) (s_aload_n dX12_bad_9 rfl (s_getf (ci := 12) (j := 3) (C := RX12) (T := TX12) (N := 49) dX12_bad_10 rfl (by decide) (by decide) qf_X12_119 (s_goto (tgt := 20) dX12_bad_13 (by decide) (s_puti (ci := 12) (j := 4) (C := RX12) (T := TX12) (N := 49) dX12_bad_20 rfl (by decide) (by decide) rfl (tyX12_ok 4 (by decide)) qf_X12_126 (s_ret dX12_bad_23 rfl)))))))))
theorem dX12_in_0 : decode cX12_in 0 = .ok (.iload_n 0, 1) := by decide +kernel
theorem dX12_in_1 : decode cX12_in 1 = .ok (.iload_n 1, 1) := by decide +kernel
theorem dX12_in_2 : decode cX12_in 2 = .ok (.if_icmp .lt 12, 3) := by decide +kernel
theorem dX12_in_5 : decode cX12_in 5 = .ok (.iload_n 0, 1) := by decide +kernel
theorem dX12_in_6 : decode cX12_in 6 = .ok (.iload_n 2, 1) := by decide +kernel
theorem dX12_in_7 : decode cX12_in 7 = .ok (.if_icmp .gt 7, 3) := by decide +kernel
theorem dX12_in_10 : decode cX12_in 10 = .ok (.iconst 1, 1) := by decide +kernel
theorem dX12_in_11 : decode cX12_in 11 = .ok (.goto 4, 3) := by decide +kernel
theorem dX12_in_14 : decode cX12_in 14 = .ok (.iconst 0, 1) := by decide +kernel
theorem dX12_in_15 : decode cX12_in 15 = .ok (.ireturn, 1) := by decide +kernel
def kX12_in_0 (g : sk_G) (d ck sk : Nat) (Q : sk_P) : sk_K := o_iload 0 (o_iload 1 (o_iclt (o_i (0) (o_zret (g, d, ck, sk, xX12_in, Q))) (o_iload 0 (o_iload 2 (o_icgt (o_i (0) (o_zret (g, d, ck, sk, xX12_in, Q))) (o_i (1) (o_zret (g, d, ck, sk, xX12_in, Q))))))))
theorem tX12_in_0 {g : sk_G} {d ck sk : Nat} {Q : sk_P} : sk_S (g, d, ck, sk, xX12_in, Q) 0 (kX12_in_0 g d ck sk Q) := s_iload_n dX12_in_0 rfl (s_iload_n dX12_in_1 rfl (s_iclt (tgt := 14) dX12_in_2 (by decide) (s_iconst dX12_in_14 (s_zret dX12_in_15 rfl)) (s_iload_n dX12_in_5 rfl (s_iload_n dX12_in_6 rfl (s_icgt (tgt := 14) dX12_in_7 (by decide) (s_iconst dX12_in_14 (s_zret dX12_in_15 rfl)) (s_iconst dX12_in_10 (s_goto (tgt := 15) dX12_in_11 (by decide) (s_zret dX12_in_15 rfl))))))))
theorem dX12_isSign_0 : decode cX12_isSign 0 = .ok (.iload_n 0, 1) := by decide +kernel
theorem dX12_isSign_1 : decode cX12_isSign 1 = .ok (.bipush 61, 2) := by decide +kernel
theorem dX12_isSign_3 : decode cX12_isSign 3 = .ok (.if_icmp .eq 15, 3) := by decide +kernel
theorem dX12_isSign_6 : decode cX12_isSign 6 = .ok (.iload_n 0, 1) := by decide +kernel
theorem dX12_isSign_7 : decode cX12_isSign 7 = .ok (.bipush 60, 2) := by decide +kernel
theorem dX12_isSign_9 : decode cX12_isSign 9 = .ok (.if_icmp .eq 9, 3) := by decide +kernel
theorem dX12_isSign_12 : decode cX12_isSign 12 = .ok (.iload_n 0, 1) := by decide +kernel
theorem dX12_isSign_13 : decode cX12_isSign 13 = .ok (.bipush 62, 2) := by decide +kernel
theorem dX12_isSign_15 : decode cX12_isSign 15 = .ok (.if_icmp .ne 7, 3) := by decide +kernel
theorem dX12_isSign_18 : decode cX12_isSign 18 = .ok (.iconst 1, 1) := by decide +kernel
theorem dX12_isSign_19 : decode cX12_isSign 19 = .ok (.goto 4, 3) := by decide +kernel
theorem dX12_isSign_22 : decode cX12_isSign 22 = .ok (.iconst 0, 1) := by decide +kernel
theorem dX12_isSign_23 : decode cX12_isSign 23 = .ok (.ireturn, 1) := by decide +kernel
set_option maxRecDepth 20000 in
def kX12_isSign_0 (g : sk_G) (d ck sk : Nat) (Q : sk_P) : sk_K := o_iload 0 (o_i (61) (o_iceq (o_i (1) (o_zret (g, d, ck, sk, xX12_isSign, Q))) (o_iload 0 (o_i (60) (o_iceq (o_i (1) (o_zret (g, d, ck, sk, xX12_isSign, Q))) (o_iload 0 (o_i (62) (o_icne (o_i (0) (o_zret (g, d, ck, sk, xX12_isSign, Q))) (o_i (1) (o_zret (g, d, ck, sk, xX12_isSign, Q)))))))))))
set_option maxRecDepth 20000 in
theorem tX12_isSign_0 {g : sk_G} {d ck sk : Nat} {Q : sk_P} : sk_S (g, d, ck, sk, xX12_isSign, Q) 0 (kX12_isSign_0 g d ck sk Q) := s_iload_n dX12_isSign_0 rfl (s_bipush dX12_isSign_1 rfl (s_iceq (tgt := 18) dX12_isSign_3 (by decide) (s_iconst dX12_isSign_18 (s_goto (tgt := 23) dX12_isSign_19 (by decide) (s_zret dX12_isSign_23 rfl))) (s_iload_n dX12_isSign_6 rfl (s_bipush dX12_isSign_7 rfl (s_iceq (tgt := 18) dX12_isSign_9 (by decide) (s_iconst dX12_isSign_18 (s_goto (tgt := 23) dX12_isSign_19 (by decide) (s_zret dX12_isSign_23 rfl))) (s_iload_n dX12_isSign_12 rfl (s_bipush dX12_isSign_13 rfl (s_icne (tgt := 22) dX12_isSign_15 (by decide) (s_iconst dX12_isSign_22 (s_zret dX12_isSign_23 rfl)) (s_iconst dX12_isSign_18 (s_goto (tgt := 23) dX12_isSign_19 (by decide) (s_zret dX12_isSign_23 rfl)))))))))))
theorem dX12_isInk_0 : decode cX12_isInk 0 = .ok (.iload_n 0, 1) := by decide +kernel
theorem dX12_isInk_1 : decode cX12_isInk 1 = .ok (.bipush 97, 2) := by decide +kernel
theorem dX12_isInk_3 : decode cX12_isInk 3 = .ok (.if_icmp .lt 9, 3) := by decide +kernel
theorem dX12_isInk_6 : decode cX12_isInk 6 = .ok (.iload_n 0, 1) := by decide +kernel
theorem dX12_isInk_7 : decode cX12_isInk 7 = .ok (.bipush 122, 2) := by decide +kernel
theorem dX12_isInk_9 : decode cX12_isInk 9 = .ok (.if_icmp .le 9, 3) := by decide +kernel
theorem dX12_isInk_12 : decode cX12_isInk 12 = .ok (.iload_n 0, 1) := by decide +kernel
theorem dX12_isInk_13 : decode cX12_isInk 13 = .ok (.bipush 46, 2) := by decide +kernel
theorem dX12_isInk_15 : decode cX12_isInk 15 = .ok (.if_icmp .ne 7, 3) := by decide +kernel
theorem dX12_isInk_18 : decode cX12_isInk 18 = .ok (.iconst 1, 1) := by decide +kernel
theorem dX12_isInk_19 : decode cX12_isInk 19 = .ok (.goto 4, 3) := by decide +kernel
theorem dX12_isInk_22 : decode cX12_isInk 22 = .ok (.iconst 0, 1) := by decide +kernel
theorem dX12_isInk_23 : decode cX12_isInk 23 = .ok (.ireturn, 1) := by decide +kernel
set_option maxRecDepth 20000 in
def kX12_isInk_0 (g : sk_G) (d ck sk : Nat) (Q : sk_P) : sk_K := o_iload 0 (o_i (97) (o_iclt (o_iload 0 (o_i (46) (o_icne (o_i (0) (o_zret (g, d, ck, sk, xX12_isInk, Q))) (o_i (1) (o_zret (g, d, ck, sk, xX12_isInk, Q)))))) (o_iload 0 (o_i (122) (o_icle (o_i (1) (o_zret (g, d, ck, sk, xX12_isInk, Q))) (o_iload 0 (o_i (46) (o_icne (o_i (0) (o_zret (g, d, ck, sk, xX12_isInk, Q))) (o_i (1) (o_zret (g, d, ck, sk, xX12_isInk, Q)))))))))))
set_option maxRecDepth 20000 in
theorem tX12_isInk_0 {g : sk_G} {d ck sk : Nat} {Q : sk_P} : sk_S (g, d, ck, sk, xX12_isInk, Q) 0 (kX12_isInk_0 g d ck sk Q) := s_iload_n dX12_isInk_0 rfl (s_bipush dX12_isInk_1 rfl (s_iclt (tgt := 12) dX12_isInk_3 (by decide) (s_iload_n dX12_isInk_12 rfl (s_bipush dX12_isInk_13 rfl (s_icne (tgt := 22) dX12_isInk_15 (by decide) (s_iconst dX12_isInk_22 (s_zret dX12_isInk_23 rfl)) (s_iconst dX12_isInk_18 (s_goto (tgt := 23) dX12_isInk_19 (by decide) (s_zret dX12_isInk_23 rfl)))))) (s_iload_n dX12_isInk_6 rfl (s_bipush dX12_isInk_7 rfl (s_icle (tgt := 18) dX12_isInk_9 (by decide) (s_iconst dX12_isInk_18 (s_goto (tgt := 23) dX12_isInk_19 (by decide) (s_zret dX12_isInk_23 rfl))) (s_iload_n dX12_isInk_12 rfl (s_bipush dX12_isInk_13 rfl (s_icne (tgt := 22) dX12_isInk_15 (by decide) (s_iconst dX12_isInk_22 (s_zret dX12_isInk_23 rfl)) (s_iconst dX12_isInk_18 (s_goto (tgt := 23) dX12_isInk_19 (by decide) (s_zret dX12_isInk_23 rfl)))))))))))
theorem dX12_isHand_0 : decode cX12_isHand 0 = .ok (.iload_n 1, 1) := by decide +kernel
theorem dX12_isHand_1 : decode cX12_isHand 1 = .ok (.iconst 0, 1) := by decide +kernel
theorem dX12_isHand_2 : decode cX12_isHand 2 = .ok (.aload_n 0, 1) := by decide +kernel
theorem dX12_isHand_3 : decode cX12_isHand 3 = .ok (.getfield 270, 3) := by decide +kernel
theorem dX12_isHand_6 : decode cX12_isHand 6 = .ok (.iconst 1, 1) := by decide +kernel
theorem dX12_isHand_7 : decode cX12_isHand 7 = .ok (.isub, 1) := by decide +kernel
theorem dX12_isHand_8 : decode cX12_isHand 8 = .ok (.invokestatic 224, 3) := by decide +kernel
theorem dX12_isHand_11 : decode cX12_isHand 11 = .ok (.ireturn, 1) := by decide +kernel
set_option maxRecDepth 20000 in
def kX12_isHand_0 (g : sk_G) (d ck sk : Nat) (Q : sk_P) : sk_K := o_iload 1 (o_i (0) (o_aload 0 (o_getf 12 22 (o_i (1) (o_isub (o_stcT (g, d, ck, sk, xX12_isHand, Q) 3 3 (fun Q => kX12_in_0 g (d - 1) 0 0 Q) (o_zret (g, d, ck, sk, xX12_isHand, Q))))))))
set_option maxRecDepth 20000 in
theorem tX12_isHand_0 {g : sk_G} {d ck sk : Nat} {Q : sk_P} : sk_S (g, d, ck, sk, xX12_isHand, Q) 0 (kX12_isHand_0 g d ck sk Q) := s_iload_n dX12_isHand_0 rfl (s_iconst dX12_isHand_1 (s_aload_n dX12_isHand_2 rfl (s_getf (ci := 12) (j := 22) (C := RX12) (T := TX12) (N := 49) dX12_isHand_3 rfl (by decide) (by decide) qf_X12_270 (s_iconst dX12_isHand_6 (s_isub dX12_isHand_7 (s_stcT (X := xX12_in) (K := (fun Q => kX12_in_0 g (d - 1) 0 0 Q)) (fun _ => tX12_in_0) rfl dX12_isHand_8 m_X12_in qm_X12_224 qs_X12_in (s_zret dX12_isHand_11 rfl)))))))
theorem dX12_of_0 : decode cX12_of 0 = .ok (.aload_n 0, 1) := by decide +kernel
theorem dX12_of_1 : decode cX12_of 1 = .ok (.getfield 61, 3) := by decide +kernel
theorem dX12_of_4 : decode cX12_of 4 = .ok (.bipush 40, 2) := by decide +kernel
theorem dX12_of_6 : decode cX12_of 6 = .ok (.iconst 3, 1) := by decide +kernel
theorem dX12_of_7 : decode cX12_of 7 = .ok (.bipush 6, 2) := by decide +kernel
theorem dX12_of_9 : decode cX12_of 9 = .ok (.iload_n 1, 1) := by decide +kernel
theorem dX12_of_10 : decode cX12_of 10 = .ok (.imul, 1) := by decide +kernel
theorem dX12_of_11 : decode cX12_of 11 = .ok (.iload_n 2, 1) := by decide +kernel
theorem dX12_of_12 : decode cX12_of 12 = .ok (.iadd, 1) := by decide +kernel
theorem dX12_of_13 : decode cX12_of 13 = .ok (.imul, 1) := by decide +kernel
theorem dX12_of_14 : decode cX12_of 14 = .ok (.iadd, 1) := by decide +kernel
theorem dX12_of_15 : decode cX12_of 15 = .ok (.iload_n 3, 1) := by decide +kernel
theorem dX12_of_16 : decode cX12_of 16 = .ok (.iadd, 1) := by decide +kernel
theorem dX12_of_17 : decode cX12_of 17 = .ok (.iaload, 1) := by decide +kernel
theorem dX12_of_18 : decode cX12_of 18 = .ok (.ireturn, 1) := by decide +kernel
def kX12_of_0 (g : sk_G) (d ck sk : Nat) (Q : sk_P) : sk_K := o_aload 0 (o_getf 12 28 (o_i (40) (o_i (3) (o_i (6) (o_iload 1 (o_imul (o_iload 2 (o_iadd (o_imul (o_iadd (o_iload 3 (o_iadd (o_iaload (o_iret (g, d, ck, sk, xX12_of, Q)))))))))))))))
theorem tX12_of_0 {g : sk_G} {d ck sk : Nat} {Q : sk_P} : sk_S (g, d, ck, sk, xX12_of, Q) 0 (kX12_of_0 g d ck sk Q) := s_aload_n dX12_of_0 rfl (s_getf (ci := 12) (j := 28) (C := RX12) (T := TX12) (N := 49) dX12_of_1 rfl (by decide) (by decide) qf_X12_61 (s_bipush dX12_of_4 rfl (s_iconst dX12_of_6 (s_bipush dX12_of_7 rfl (s_iload_n dX12_of_9 rfl (s_imul dX12_of_10 (s_iload_n dX12_of_11 rfl (s_iadd dX12_of_12 (s_imul dX12_of_13 (s_iadd dX12_of_14 (s_iload_n dX12_of_15 rfl (s_iadd dX12_of_16 (s_iaload dX12_of_17 (s_iret dX12_of_18 rfl))))))))))))))
theorem dX12_isCell_0 : decode cX12_isCell 0 = .ok (.iload_n 1, 1) := by decide +kernel
theorem dX12_isCell_1 : decode cX12_isCell 1 = .ok (.iconst 0, 1) := by decide +kernel
theorem dX12_isCell_2 : decode cX12_isCell 2 = .ok (.aload_n 0, 1) := by decide +kernel
theorem dX12_isCell_3 : decode cX12_isCell 3 = .ok (.getfield 273, 3) := by decide +kernel
theorem dX12_isCell_6 : decode cX12_isCell 6 = .ok (.iconst 1, 1) := by decide +kernel
theorem dX12_isCell_7 : decode cX12_isCell 7 = .ok (.isub, 1) := by decide +kernel
theorem dX12_isCell_8 : decode cX12_isCell 8 = .ok (.invokestatic 224, 3) := by decide +kernel
theorem dX12_isCell_11 : decode cX12_isCell 11 = .ok (.ireturn, 1) := by decide +kernel
set_option maxRecDepth 20000 in
def kX12_isCell_0 (g : sk_G) (d ck sk : Nat) (Q : sk_P) : sk_K := o_iload 1 (o_i (0) (o_aload 0 (o_getf 12 23 (o_i (1) (o_isub (o_stcT (g, d, ck, sk, xX12_isCell, Q) 3 3 (fun Q => kX12_in_0 g (d - 1) 0 0 Q) (o_zret (g, d, ck, sk, xX12_isCell, Q))))))))
set_option maxRecDepth 20000 in
theorem tX12_isCell_0 {g : sk_G} {d ck sk : Nat} {Q : sk_P} : sk_S (g, d, ck, sk, xX12_isCell, Q) 0 (kX12_isCell_0 g d ck sk Q) := s_iload_n dX12_isCell_0 rfl (s_iconst dX12_isCell_1 (s_aload_n dX12_isCell_2 rfl (s_getf (ci := 12) (j := 23) (C := RX12) (T := TX12) (N := 49) dX12_isCell_3 rfl (by decide) (by decide) qf_X12_273 (s_iconst dX12_isCell_6 (s_isub dX12_isCell_7 (s_stcT (X := xX12_in) (K := (fun Q => kX12_in_0 g (d - 1) 0 0 Q)) (fun _ => tX12_in_0) rfl dX12_isCell_8 m_X12_in qm_X12_224 qs_X12_in (s_zret dX12_isCell_11 rfl)))))))
theorem dX12_isWriting_0 : decode cX12_isWriting 0 = .ok (.aload_n 0, 1) := by decide +kernel
theorem dX12_isWriting_1 : decode cX12_isWriting 1 = .ok (.getfield 273, 3) := by decide +kernel
theorem dX12_isWriting_4 : decode cX12_isWriting 4 = .ok (.ifCond .le 21, 3) := by decide +kernel
theorem dX12_isWriting_7 : decode cX12_isWriting 7 = .ok (.iload_n 1, 1) := by decide +kernel
theorem dX12_isWriting_8 : decode cX12_isWriting 8 = .ok (.iconst 0, 1) := by decide +kernel
theorem dX12_isWriting_9 : decode cX12_isWriting 9 = .ok (.aload_n 0, 1) := by decide +kernel
theorem dX12_isWriting_10 : decode cX12_isWriting 10 = .ok (.getfield 292, 3) := by decide +kernel
theorem dX12_isWriting_13 : decode cX12_isWriting 13 = .ok (.iconst 1, 1) := by decide +kernel
theorem dX12_isWriting_14 : decode cX12_isWriting 14 = .ok (.isub, 1) := by decide +kernel
theorem dX12_isWriting_15 : decode cX12_isWriting 15 = .ok (.invokestatic 224, 3) := by decide +kernel
theorem dX12_isWriting_18 : decode cX12_isWriting 18 = .ok (.ifCond .eq 7, 3) := by decide +kernel
theorem dX12_isWriting_21 : decode cX12_isWriting 21 = .ok (.iconst 1, 1) := by decide +kernel
theorem dX12_isWriting_22 : decode cX12_isWriting 22 = .ok (.goto 4, 3) := by decide +kernel
theorem dX12_isWriting_25 : decode cX12_isWriting 25 = .ok (.iconst 0, 1) := by decide +kernel
theorem dX12_isWriting_26 : decode cX12_isWriting 26 = .ok (.ireturn, 1) := by decide +kernel
set_option maxRecDepth 20000 in
def kX12_isWriting_0 (g : sk_G) (d ck sk : Nat) (Q : sk_P) : sk_K := o_aload 0 (o_getf 12 23 (o_ifle (o_i (0) (o_zret (g, d, ck, sk, xX12_isWriting, Q))) (o_iload 1 (o_i (0) (o_aload 0 (o_getf 12 27 (o_i (1) (o_isub (o_stcT (g, d, ck, sk, xX12_isWriting, Q) 3 3 (fun Q => kX12_in_0 g (d - 1) 0 0 Q) (o_ifeq (o_i (0) (o_zret (g, d, ck, sk, xX12_isWriting, Q))) (o_i (1) (o_zret (g, d, ck, sk, xX12_isWriting, Q)))))))))))))
set_option maxRecDepth 20000 in
theorem tX12_isWriting_0 {g : sk_G} {d ck sk : Nat} {Q : sk_P} : sk_S (g, d, ck, sk, xX12_isWriting, Q) 0 (kX12_isWriting_0 g d ck sk Q) := s_aload_n dX12_isWriting_0 rfl (s_getf (ci := 12) (j := 23) (C := RX12) (T := TX12) (N := 49) dX12_isWriting_1 rfl (by decide) (by decide) qf_X12_273 (s_ifle (tgt := 25) dX12_isWriting_4 (by decide) (s_iconst dX12_isWriting_25 (s_zret dX12_isWriting_26 rfl)) (s_iload_n dX12_isWriting_7 rfl (s_iconst dX12_isWriting_8 (s_aload_n dX12_isWriting_9 rfl (s_getf (ci := 12) (j := 27) (C := RX12) (T := TX12) (N := 49) dX12_isWriting_10 rfl (by decide) (by decide) qf_X12_292 (s_iconst dX12_isWriting_13 (s_isub dX12_isWriting_14 (s_stcT (X := xX12_in) (K := (fun Q => kX12_in_0 g (d - 1) 0 0 Q)) (fun _ => tX12_in_0) rfl dX12_isWriting_15 m_X12_in qm_X12_224 qs_X12_in (s_ifeq (tgt := 25) dX12_isWriting_18 (by decide) (s_iconst dX12_isWriting_25 (s_zret dX12_isWriting_26 rfl)) (s_iconst dX12_isWriting_21 (s_goto (tgt := 26) dX12_isWriting_22 (by decide) (s_zret dX12_isWriting_26 rfl)))))))))))))
theorem dX12_signOf_0 : decode cX12_signOf 0 = .ok (.aload_n 0, 1) := by decide +kernel
theorem dX12_signOf_1 : decode cX12_signOf 1 = .ok (.getfield 52, 3) := by decide +kernel
theorem dX12_signOf_4 : decode cX12_signOf 4 = .ok (.iconst 3, 1) := by decide +kernel
theorem dX12_signOf_5 : decode cX12_signOf 5 = .ok (.bipush 16, 2) := by decide +kernel
theorem dX12_signOf_7 : decode cX12_signOf 7 = .ok (.iload_n 1, 1) := by decide +kernel
theorem dX12_signOf_8 : decode cX12_signOf 8 = .ok (.imul, 1) := by decide +kernel
theorem dX12_signOf_9 : decode cX12_signOf 9 = .ok (.iload_n 2, 1) := by decide +kernel
theorem dX12_signOf_10 : decode cX12_signOf 10 = .ok (.iadd, 1) := by decide +kernel
theorem dX12_signOf_11 : decode cX12_signOf 11 = .ok (.imul, 1) := by decide +kernel
theorem dX12_signOf_12 : decode cX12_signOf 12 = .ok (.iaload, 1) := by decide +kernel
theorem dX12_signOf_13 : decode cX12_signOf 13 = .ok (.ireturn, 1) := by decide +kernel
def kX12_signOf_0 (g : sk_G) (d ck sk : Nat) (Q : sk_P) : sk_K := o_aload 0 (o_getf 12 24 (o_i (3) (o_i (16) (o_iload 1 (o_imul (o_iload 2 (o_iadd (o_imul (o_iaload (o_iret (g, d, ck, sk, xX12_signOf, Q)))))))))))
theorem tX12_signOf_0 {g : sk_G} {d ck sk : Nat} {Q : sk_P} : sk_S (g, d, ck, sk, xX12_signOf, Q) 0 (kX12_signOf_0 g d ck sk Q) := s_aload_n dX12_signOf_0 rfl (s_getf (ci := 12) (j := 24) (C := RX12) (T := TX12) (N := 49) dX12_signOf_1 rfl (by decide) (by decide) qf_X12_52 (s_iconst dX12_signOf_4 (s_bipush dX12_signOf_5 rfl (s_iload_n dX12_signOf_7 rfl (s_imul dX12_signOf_8 (s_iload_n dX12_signOf_9 rfl (s_iadd dX12_signOf_10 (s_imul dX12_signOf_11 (s_iaload dX12_signOf_12 (s_iret dX12_signOf_13 rfl))))))))))
theorem dX12_isRefused_0 : decode cX12_isRefused 0 = .ok (.iload_n 1, 1) := by decide +kernel
theorem dX12_isRefused_1 : decode cX12_isRefused 1 = .ok (.iconst (-1), 1) := by decide +kernel
theorem dX12_isRefused_2 : decode cX12_isRefused 2 = .ok (.if_icmp .eq 13, 3) := by decide +kernel
theorem dX12_isRefused_5 : decode cX12_isRefused 5 = .ok (.aload_n 0, 1) := by decide +kernel
theorem dX12_isRefused_6 : decode cX12_isRefused 6 = .ok (.getfield 64, 3) := by decide +kernel
theorem dX12_isRefused_9 : decode cX12_isRefused 9 = .ok (.iload_n 1, 1) := by decide +kernel
theorem dX12_isRefused_10 : decode cX12_isRefused 10 = .ok (.dup2, 1) := by decide +kernel
theorem dX12_isRefused_11 : decode cX12_isRefused 11 = .ok (.iaload, 1) := by decide +kernel
theorem dX12_isRefused_12 : decode cX12_isRefused 12 = .ok (.iconst 1, 1) := by decide +kernel
theorem dX12_isRefused_13 : decode cX12_isRefused 13 = .ok (.iadd, 1) := by decide +kernel
theorem dX12_isRefused_14 : decode cX12_isRefused 14 = .ok (.iastore, 1) := by decide +kernel
theorem dX12_isRefused_15 : decode cX12_isRefused 15 = .ok (.iload_n 1, 1) := by decide +kernel
theorem dX12_isRefused_16 : decode cX12_isRefused 16 = .ok (.iconst (-1), 1) := by decide +kernel
theorem dX12_isRefused_17 : decode cX12_isRefused 17 = .ok (.if_icmp .eq 7, 3) := by decide +kernel
theorem dX12_isRefused_20 : decode cX12_isRefused 20 = .ok (.iconst 1, 1) := by decide +kernel
theorem dX12_isRefused_21 : decode cX12_isRefused 21 = .ok (.goto 4, 3) := by decide +kernel
theorem dX12_isRefused_24 : decode cX12_isRefused 24 = .ok (.iconst 0, 1) := by decide +kernel
theorem dX12_isRefused_25 : decode cX12_isRefused 25 = .ok (.ireturn, 1) := by decide +kernel
set_option maxRecDepth 20000 in
def kX12_isRefused_0 (g : sk_G) (d ck sk : Nat) (Q : sk_P) : sk_K := o_iload 1 (o_i (-1) (o_iceq (o_iload 1 (o_i (-1) (o_iceq (o_i (0) (o_zret (g, d, ck, sk, xX12_isRefused, Q))) (o_i (1) (o_zret (g, d, ck, sk, xX12_isRefused, Q)))))) (o_aload 0 (o_getf 12 29 (o_iload 1 (o_dup2 (o_iaload (o_i (1) (o_iadd (o_iastore (o_iload 1 (o_i (-1) (o_iceq (o_i (0) (o_zret (g, d, ck, sk, xX12_isRefused, Q))) (o_i (1) (o_zret (g, d, ck, sk, xX12_isRefused, Q))))))))))))))))
set_option maxRecDepth 20000 in
theorem tX12_isRefused_0 {g : sk_G} {d ck sk : Nat} {Q : sk_P} : sk_S (g, d, ck, sk, xX12_isRefused, Q) 0 (kX12_isRefused_0 g d ck sk Q) := s_iload_n dX12_isRefused_0 rfl (s_iconst dX12_isRefused_1 (s_iceq (tgt := 15) dX12_isRefused_2 (by decide) (s_iload_n dX12_isRefused_15 rfl (s_iconst dX12_isRefused_16 (s_iceq (tgt := 24) dX12_isRefused_17 (by decide) (s_iconst dX12_isRefused_24 (s_zret dX12_isRefused_25 rfl)) (s_iconst dX12_isRefused_20 (s_goto (tgt := 25) dX12_isRefused_21 (by decide) (s_zret dX12_isRefused_25 rfl)))))) (s_aload_n dX12_isRefused_5 rfl (s_getf (ci := 12) (j := 29) (C := RX12) (T := TX12) (N := 49) dX12_isRefused_6 rfl (by decide) (by decide) qf_X12_64 (s_iload_n dX12_isRefused_9 rfl (s_dup2 dX12_isRefused_10 (s_iaload dX12_isRefused_11 (s_iconst dX12_isRefused_12 (s_iadd dX12_isRefused_13 (s_iastore dX12_isRefused_14 (s_iload_n dX12_isRefused_15 rfl (s_iconst dX12_isRefused_16 (s_iceq (tgt := 24) dX12_isRefused_17 (by decide) (s_iconst dX12_isRefused_24 (s_zret dX12_isRefused_25 rfl)) (s_iconst dX12_isRefused_20 (s_goto (tgt := 25) dX12_isRefused_21 (by decide) (s_zret dX12_isRefused_25 rfl))))))))))))))))
theorem dX12_setOf_0 : decode cX12_setOf 0 = .ok (.aload_n 0, 1) := by decide +kernel
theorem dX12_setOf_1 : decode cX12_setOf 1 = .ok (.getfield 61, 3) := by decide +kernel
theorem dX12_setOf_4 : decode cX12_setOf 4 = .ok (.bipush 40, 2) := by decide +kernel
theorem dX12_setOf_6 : decode cX12_setOf 6 = .ok (.iconst 3, 1) := by decide +kernel
theorem dX12_setOf_7 : decode cX12_setOf 7 = .ok (.bipush 6, 2) := by decide +kernel
theorem dX12_setOf_9 : decode cX12_setOf 9 = .ok (.iload_n 1, 1) := by decide +kernel
theorem dX12_setOf_10 : decode cX12_setOf 10 = .ok (.imul, 1) := by decide +kernel
theorem dX12_setOf_11 : decode cX12_setOf 11 = .ok (.iload_n 2, 1) := by decide +kernel
theorem dX12_setOf_12 : decode cX12_setOf 12 = .ok (.iadd, 1) := by decide +kernel
theorem dX12_setOf_13 : decode cX12_setOf 13 = .ok (.imul, 1) := by decide +kernel
theorem dX12_setOf_14 : decode cX12_setOf 14 = .ok (.iadd, 1) := by decide +kernel
theorem dX12_setOf_15 : decode cX12_setOf 15 = .ok (.iload_n 3, 1) := by decide +kernel
theorem dX12_setOf_16 : decode cX12_setOf 16 = .ok (.iadd, 1) := by decide +kernel
theorem dX12_setOf_17 : decode cX12_setOf 17 = .ok (.iload 4, 2) := by decide +kernel
theorem dX12_setOf_19 : decode cX12_setOf 19 = .ok (.iastore, 1) := by decide +kernel
theorem dX12_setOf_20 : decode cX12_setOf 20 = .ok (.return_, 1) := by decide +kernel
def kX12_setOf_0 (g : sk_G) (d ck sk : Nat) (Q : sk_P) : sk_K := o_aload 0 (o_getf 12 28 (o_i (40) (o_i (3) (o_i (6) (o_iload 1 (o_imul (o_iload 2 (o_iadd (o_imul (o_iadd (o_iload 3 (o_iadd (o_iload 4 (o_iastore (o_ret (g, d, ck, sk, xX12_setOf, Q))))))))))))))))
theorem tX12_setOf_0 {g : sk_G} {d ck sk : Nat} {Q : sk_P} : sk_S (g, d, ck, sk, xX12_setOf, Q) 0 (kX12_setOf_0 g d ck sk Q) := s_aload_n dX12_setOf_0 rfl (s_getf (ci := 12) (j := 28) (C := RX12) (T := TX12) (N := 49) dX12_setOf_1 rfl (by decide) (by decide) qf_X12_61 (s_bipush dX12_setOf_4 rfl (s_iconst dX12_setOf_6 (s_bipush dX12_setOf_7 rfl (s_iload_n dX12_setOf_9 rfl (s_imul dX12_setOf_10 (s_iload_n dX12_setOf_11 rfl (s_iadd dX12_setOf_12 (s_imul dX12_setOf_13 (s_iadd dX12_setOf_14 (s_iload_n dX12_setOf_15 rfl (s_iadd dX12_setOf_16 (s_iload dX12_setOf_17 (s_iastore dX12_setOf_19 (s_ret dX12_setOf_20 rfl)))))))))))))))
theorem dX12_isRow_0 : decode cX12_isRow 0 = .ok (.aload_n 0, 1) := by decide +kernel
theorem dX12_isRow_1 : decode cX12_isRow 1 = .ok (.getfield 273, 3) := by decide +kernel
theorem dX12_isRow_4 : decode cX12_isRow 4 = .ok (.ifCond .le 23, 3) := by decide +kernel
theorem dX12_isRow_7 : decode cX12_isRow 7 = .ok (.iload_n 1, 1) := by decide +kernel
theorem dX12_isRow_8 : decode cX12_isRow 8 = .ok (.iconst 0, 1) := by decide +kernel
theorem dX12_isRow_9 : decode cX12_isRow 9 = .ok (.aload_n 0, 1) := by decide +kernel
theorem dX12_isRow_10 : decode cX12_isRow 10 = .ok (.getfield 46, 3) := by decide +kernel
theorem dX12_isRow_13 : decode cX12_isRow 13 = .ok (.iconst 1, 1) := by decide +kernel
theorem dX12_isRow_14 : decode cX12_isRow 14 = .ok (.iaload, 1) := by decide +kernel
theorem dX12_isRow_15 : decode cX12_isRow 15 = .ok (.iconst 1, 1) := by decide +kernel
theorem dX12_isRow_16 : decode cX12_isRow 16 = .ok (.isub, 1) := by decide +kernel
theorem dX12_isRow_17 : decode cX12_isRow 17 = .ok (.invokestatic 224, 3) := by decide +kernel
theorem dX12_isRow_20 : decode cX12_isRow 20 = .ok (.ifCond .eq 7, 3) := by decide +kernel
theorem dX12_isRow_23 : decode cX12_isRow 23 = .ok (.iconst 1, 1) := by decide +kernel
theorem dX12_isRow_24 : decode cX12_isRow 24 = .ok (.goto 4, 3) := by decide +kernel
theorem dX12_isRow_27 : decode cX12_isRow 27 = .ok (.iconst 0, 1) := by decide +kernel
theorem dX12_isRow_28 : decode cX12_isRow 28 = .ok (.ireturn, 1) := by decide +kernel
set_option maxRecDepth 20000 in
def kX12_isRow_0 (g : sk_G) (d ck sk : Nat) (Q : sk_P) : sk_K := o_aload 0 (o_getf 12 23 (o_ifle (o_i (0) (o_zret (g, d, ck, sk, xX12_isRow, Q))) (o_iload 1 (o_i (0) (o_aload 0 (o_getf 12 20 (o_i (1) (o_iaload (o_i (1) (o_isub (o_stcT (g, d, ck, sk, xX12_isRow, Q) 3 3 (fun Q => kX12_in_0 g (d - 1) 0 0 Q) (o_ifeq (o_i (0) (o_zret (g, d, ck, sk, xX12_isRow, Q))) (o_i (1) (o_zret (g, d, ck, sk, xX12_isRow, Q)))))))))))))))
set_option maxRecDepth 20000 in
theorem tX12_isRow_0 {g : sk_G} {d ck sk : Nat} {Q : sk_P} : sk_S (g, d, ck, sk, xX12_isRow, Q) 0 (kX12_isRow_0 g d ck sk Q) := s_aload_n dX12_isRow_0 rfl (s_getf (ci := 12) (j := 23) (C := RX12) (T := TX12) (N := 49) dX12_isRow_1 rfl (by decide) (by decide) qf_X12_273 (s_ifle (tgt := 27) dX12_isRow_4 (by decide) (s_iconst dX12_isRow_27 (s_zret dX12_isRow_28 rfl)) (s_iload_n dX12_isRow_7 rfl (s_iconst dX12_isRow_8 (s_aload_n dX12_isRow_9 rfl (s_getf (ci := 12) (j := 20) (C := RX12) (T := TX12) (N := 49) dX12_isRow_10 rfl (by decide) (by decide) qf_X12_46 (s_iconst dX12_isRow_13 (s_iaload dX12_isRow_14 (s_iconst dX12_isRow_15 (s_isub dX12_isRow_16 (s_stcT (X := xX12_in) (K := (fun Q => kX12_in_0 g (d - 1) 0 0 Q)) (fun _ => tX12_in_0) rfl dX12_isRow_17 m_X12_in qm_X12_224 qs_X12_in (s_ifeq (tgt := 27) dX12_isRow_20 (by decide) (s_iconst dX12_isRow_27 (s_zret dX12_isRow_28 rfl)) (s_iconst dX12_isRow_23 (s_goto (tgt := 28) dX12_isRow_24 (by decide) (s_zret dX12_isRow_28 rfl)))))))))))))))
theorem dX12_areYears_0 : decode cX12_areYears 0 = .ok (.iload_n 1, 1) := by decide +kernel
theorem dX12_areYears_1 : decode cX12_areYears 1 = .ok (.iconst 1, 1) := by decide +kernel
theorem dX12_areYears_2 : decode cX12_areYears 2 = .ok (.bipush 30, 2) := by decide +kernel
theorem dX12_areYears_4 : decode cX12_areYears 4 = .ok (.invokestatic 224, 3) := by decide +kernel
theorem dX12_areYears_7 : decode cX12_areYears 7 = .ok (.ifCond .eq 23, 3) := by decide +kernel
theorem dX12_areYears_10 : decode cX12_areYears 10 = .ok (.aload_n 0, 1) := by decide +kernel
theorem dX12_areYears_11 : decode cX12_areYears 11 = .ok (.getfield 61, 3) := by decide +kernel
theorem dX12_areYears_14 : decode cX12_areYears 14 = .ok (.sipush 761, 3) := by decide +kernel
theorem dX12_areYears_17 : decode cX12_areYears 17 = .ok (.iaload, 1) := by decide +kernel
theorem dX12_areYears_18 : decode cX12_areYears 18 = .ok (.iload_n 1, 1) := by decide +kernel
theorem dX12_areYears_19 : decode cX12_areYears 19 = .ok (.iadd, 1) := by decide +kernel
theorem dX12_areYears_20 : decode cX12_areYears 20 = .ok (.sipush 999, 3) := by decide +kernel
theorem dX12_areYears_23 : decode cX12_areYears 23 = .ok (.if_icmp .gt 7, 3) := by decide +kernel
theorem dX12_areYears_26 : decode cX12_areYears 26 = .ok (.iconst 1, 1) := by decide +kernel
theorem dX12_areYears_27 : decode cX12_areYears 27 = .ok (.goto 4, 3) := by decide +kernel
theorem dX12_areYears_30 : decode cX12_areYears 30 = .ok (.iconst 0, 1) := by decide +kernel
theorem dX12_areYears_31 : decode cX12_areYears 31 = .ok (.ireturn, 1) := by decide +kernel
set_option maxRecDepth 20000 in
def kX12_areYears_0 (g : sk_G) (d ck sk : Nat) (Q : sk_P) : sk_K := o_iload 1 (o_i (1) (o_i (30) (o_stcT (g, d, ck, sk, xX12_areYears, Q) 3 3 (fun Q => kX12_in_0 g (d - 1) 0 0 Q) (o_ifeq (o_i (0) (o_zret (g, d, ck, sk, xX12_areYears, Q))) (o_aload 0 (o_getf 12 28 (o_i (761) (o_iaload (o_iload 1 (o_iadd (o_i (999) (o_icgt (o_i (0) (o_zret (g, d, ck, sk, xX12_areYears, Q))) (o_i (1) (o_zret (g, d, ck, sk, xX12_areYears, Q)))))))))))))))
set_option maxRecDepth 20000 in
theorem tX12_areYears_0 {g : sk_G} {d ck sk : Nat} {Q : sk_P} : sk_S (g, d, ck, sk, xX12_areYears, Q) 0 (kX12_areYears_0 g d ck sk Q) := s_iload_n dX12_areYears_0 rfl (s_iconst dX12_areYears_1 (s_bipush dX12_areYears_2 rfl (s_stcT (X := xX12_in) (K := (fun Q => kX12_in_0 g (d - 1) 0 0 Q)) (fun _ => tX12_in_0) rfl dX12_areYears_4 m_X12_in qm_X12_224 qs_X12_in (s_ifeq (tgt := 30) dX12_areYears_7 (by decide) (s_iconst dX12_areYears_30 (s_zret dX12_areYears_31 rfl)) (s_aload_n dX12_areYears_10 rfl (s_getf (ci := 12) (j := 28) (C := RX12) (T := TX12) (N := 49) dX12_areYears_11 rfl (by decide) (by decide) qf_X12_61 (s_sipush dX12_areYears_14 rfl (s_iaload dX12_areYears_17 (s_iload_n dX12_areYears_18 rfl (s_iadd dX12_areYears_19 (s_sipush dX12_areYears_20 rfl (s_icgt (tgt := 30) dX12_areYears_23 (by decide) (s_iconst dX12_areYears_30 (s_zret dX12_areYears_31 rfl)) (s_iconst dX12_areYears_26 (s_goto (tgt := 31) dX12_areYears_27 (by decide) (s_zret dX12_areYears_31 rfl)))))))))))))))
theorem dX12_isLegible_0 : decode cX12_isLegible 0 = .ok (.aload_n 0, 1) := by decide +kernel
theorem dX12_isLegible_1 : decode cX12_isLegible 1 = .ok (.iload_n 1, 1) := by decide +kernel
theorem dX12_isLegible_2 : decode cX12_isLegible 2 = .ok (.iload_n 2, 1) := by decide +kernel
theorem dX12_isLegible_3 : decode cX12_isLegible 3 = .ok (.iconst 2, 1) := by decide +kernel
theorem dX12_isLegible_4 : decode cX12_isLegible 4 = .ok (.invokevirtual 295, 3) := by decide +kernel
theorem dX12_isLegible_7 : decode cX12_isLegible 7 = .ok (.aload_n 0, 1) := by decide +kernel
theorem dX12_isLegible_8 : decode cX12_isLegible 8 = .ok (.getfield 46, 3) := by decide +kernel
theorem dX12_isLegible_11 : decode cX12_isLegible 11 = .ok (.iconst 2, 1) := by decide +kernel
theorem dX12_isLegible_12 : decode cX12_isLegible 12 = .ok (.iaload, 1) := by decide +kernel
theorem dX12_isLegible_13 : decode cX12_isLegible 13 = .ok (.if_icmp .lt 7, 3) := by decide +kernel
theorem dX12_isLegible_16 : decode cX12_isLegible 16 = .ok (.iconst 1, 1) := by decide +kernel
theorem dX12_isLegible_17 : decode cX12_isLegible 17 = .ok (.goto 4, 3) := by decide +kernel
theorem dX12_isLegible_20 : decode cX12_isLegible 20 = .ok (.iconst 0, 1) := by decide +kernel
theorem dX12_isLegible_21 : decode cX12_isLegible 21 = .ok (.ireturn, 1) := by decide +kernel
set_option maxRecDepth 20000 in
def kX12_isLegible_0 (g : sk_G) (d ck sk : Nat) (Q : sk_P) : sk_K := o_aload 0 (o_iload 1 (o_iload 2 (o_i (2) (o_invT (g, d, ck, sk, xX12_isLegible, Q) 4 3 12 (fun Q => kX12_of_0 g (d - 1) 0 0 Q) (o_aload 0 (o_getf 12 20 (o_i (2) (o_iaload (o_iclt (o_i (0) (o_zret (g, d, ck, sk, xX12_isLegible, Q))) (o_i (1) (o_zret (g, d, ck, sk, xX12_isLegible, Q))))))))))))
set_option maxRecDepth 20000 in
theorem tX12_isLegible_0 {g : sk_G} {d ck sk : Nat} {Q : sk_P} : sk_S (g, d, ck, sk, xX12_isLegible, Q) 0 (kX12_isLegible_0 g d ck sk Q) := s_aload_n dX12_isLegible_0 rfl (s_iload_n dX12_isLegible_1 rfl (s_iload_n dX12_isLegible_2 rfl (s_iconst dX12_isLegible_3 (s_invT (X := xX12_of) (ci := 12) (T := TX12) (N := 49) (K := (fun Q => kX12_of_0 g (d - 1) 0 0 Q)) (fun _ => tX12_of_0) rfl dX12_isLegible_4 m_X12_of rfl (by decide) qm_X12_295 qi_X12_of qe_X12_of (s_aload_n dX12_isLegible_7 rfl (s_getf (ci := 12) (j := 20) (C := RX12) (T := TX12) (N := 49) dX12_isLegible_8 rfl (by decide) (by decide) qf_X12_46 (s_iconst dX12_isLegible_11 (s_iaload dX12_isLegible_12 (s_iclt (tgt := 20) dX12_isLegible_13 (by decide) (s_iconst dX12_isLegible_20 (s_zret dX12_isLegible_21 rfl)) (s_iconst dX12_isLegible_16 (s_goto (tgt := 21) dX12_isLegible_17 (by decide) (s_zret dX12_isLegible_21 rfl))))))))))))
theorem dX12_draw_0 : decode cX12_draw 0 = .ok (.aload_n 0, 1) := by decide +kernel
theorem dX12_draw_1 : decode cX12_draw 1 = .ok (.aload_n 0, 1) := by decide +kernel
theorem dX12_draw_2 : decode cX12_draw 2 = .ok (.getfield 391, 3) := by decide +kernel
theorem dX12_draw_5 : decode cX12_draw 5 = .ok (.ldc2_w 395, 3) := by decide +kernel
theorem dX12_draw_8 : decode cX12_draw 8 = .ok (.lmul, 1) := by decide +kernel
theorem dX12_draw_9 : decode cX12_draw 9 = .ok (.ldc2_w 397, 3) := by decide +kernel
theorem dX12_draw_12 : decode cX12_draw 12 = .ok (.ladd, 1) := by decide +kernel
theorem dX12_draw_13 : decode cX12_draw 13 = .ok (.putfield 391, 3) := by decide +kernel
theorem dX12_draw_16 : decode cX12_draw 16 = .ok (.aload_n 0, 1) := by decide +kernel
theorem dX12_draw_17 : decode cX12_draw 17 = .ok (.getfield 391, 3) := by decide +kernel
theorem dX12_draw_20 : decode cX12_draw 20 = .ok (.bipush 33, 2) := by decide +kernel
theorem dX12_draw_22 : decode cX12_draw 22 = .ok (.lushr, 1) := by decide +kernel
theorem dX12_draw_23 : decode cX12_draw 23 = .ok (.iload_n 1, 1) := by decide +kernel
theorem dX12_draw_24 : decode cX12_draw 24 = .ok (.i2l, 1) := by decide +kernel
theorem dX12_draw_25 : decode cX12_draw 25 = .ok (.lrem, 1) := by decide +kernel
theorem dX12_draw_26 : decode cX12_draw 26 = .ok (.l2i, 1) := by decide +kernel
theorem dX12_draw_27 : decode cX12_draw 27 = .ok (.ireturn, 1) := by decide +kernel
set_option maxRecDepth 20000 in
def kX12_draw_0 (g : sk_G) (d ck sk : Nat) (Q : sk_P) : sk_K := o_aload 0 (o_aload 0 (o_getf 12 34 (o_l (6364136223846793005) (o_lmul (o_l (1442695040888963407) (o_ladd (o_putl 12 34 (o_aload 0 (o_getf 12 34 (o_i (33) (o_lushr (o_iload 1 (o_i2l (o_lrem (o_l2i (o_iret (g, d, ck, sk, xX12_draw, Q)))))))))))))))))
set_option maxRecDepth 20000 in
theorem tX12_draw_0 {g : sk_G} {d ck sk : Nat} {Q : sk_P} : sk_S (g, d, ck, sk, xX12_draw, Q) 0 (kX12_draw_0 g d ck sk Q) := s_aload_n dX12_draw_0 rfl (s_aload_n dX12_draw_1 rfl (s_getf (ci := 12) (j := 34) (C := RX12) (T := TX12) (N := 49) dX12_draw_2 rfl (by decide) (by decide) qf_X12_391 (s_ldc2 dX12_draw_5 qk_X12_395 rfl (s_lmul dX12_draw_8 (s_ldc2 dX12_draw_9 qk_X12_397 rfl (s_ladd dX12_draw_12 (s_putl (ci := 12) (j := 34) (C := RX12) (T := TX12) (N := 49) dX12_draw_13 rfl (by decide) (by decide) rfl (tyX12_ok 34 (by decide)) qf_X12_391 (s_aload_n dX12_draw_16 rfl (s_getf (ci := 12) (j := 34) (C := RX12) (T := TX12) (N := 49) dX12_draw_17 rfl (by decide) (by decide) qf_X12_391 (s_bipush dX12_draw_20 rfl (s_lushr dX12_draw_22 (s_iload_n dX12_draw_23 rfl (s_i2l dX12_draw_24 (s_lrem dX12_draw_25 (s_l2i dX12_draw_26 (s_iret dX12_draw_27 rfl))))))))))))))))
theorem dX12_init_0 : decode cX12_init 0 = .ok (.aload_n 0, 1) := by decide +kernel
theorem dX12_init_1 : decode cX12_init 1 = .ok (.invokespecial 3, 3) := by decide +kernel
theorem dX12_init_4 : decode cX12_init 4 = .ok (.aload_n 0, 1) := by decide +kernel
theorem dX12_init_5 : decode cX12_init 5 = .ok (.sipush 240, 3) := by decide +kernel
theorem dX12_init_8 : decode cX12_init 8 = .ok (.newarray .int, 2) := by decide +kernel
theorem dX12_init_10 : decode cX12_init 10 = .ok (.putfield 9, 3) := by decide +kernel
theorem dX12_init_13 : decode cX12_init 13 = .ok (.aload_n 0, 1) := by decide +kernel
theorem dX12_init_14 : decode cX12_init 14 = .ok (.sipush 2600, 3) := by decide +kernel
theorem dX12_init_17 : decode cX12_init 17 = .ok (.newarray .int, 2) := by decide +kernel
theorem dX12_init_19 : decode cX12_init 19 = .ok (.putfield 13, 3) := by decide +kernel
theorem dX12_init_22 : decode cX12_init 22 = .ok (.aload_n 0, 1) := by decide +kernel
theorem dX12_init_23 : decode cX12_init 23 = .ok (.sipush 2600, 3) := by decide +kernel
theorem dX12_init_26 : decode cX12_init 26 = .ok (.newarray .int, 2) := by decide +kernel
theorem dX12_init_28 : decode cX12_init 28 = .ok (.putfield 16, 3) := by decide +kernel
theorem dX12_init_31 : decode cX12_init 31 = .ok (.aload_n 0, 1) := by decide +kernel
theorem dX12_init_32 : decode cX12_init 32 = .ok (.iconst 5, 1) := by decide +kernel
theorem dX12_init_33 : decode cX12_init 33 = .ok (.newarray .int, 2) := by decide +kernel
theorem dX12_init_35 : decode cX12_init 35 = .ok (.putfield 19, 3) := by decide +kernel
theorem dX12_init_38 : decode cX12_init 38 = .ok (.aload_n 0, 1) := by decide +kernel
theorem dX12_init_39 : decode cX12_init 39 = .ok (.iconst 5, 1) := by decide +kernel
theorem dX12_init_40 : decode cX12_init 40 = .ok (.newarray .int, 2) := by decide +kernel
theorem dX12_init_42 : decode cX12_init 42 = .ok (.putfield 22, 3) := by decide +kernel
theorem dX12_init_45 : decode cX12_init 45 = .ok (.aload_n 0, 1) := by decide +kernel
theorem dX12_init_46 : decode cX12_init 46 = .ok (.sipush 700, 3) := by decide +kernel
theorem dX12_init_49 : decode cX12_init 49 = .ok (.newarray .int, 2) := by decide +kernel
theorem dX12_init_51 : decode cX12_init 51 = .ok (.putfield 25, 3) := by decide +kernel
theorem dX12_init_54 : decode cX12_init 54 = .ok (.aload_n 0, 1) := by decide +kernel
theorem dX12_init_55 : decode cX12_init 55 = .ok (.sipush 700, 3) := by decide +kernel
theorem dX12_init_58 : decode cX12_init 58 = .ok (.newarray .int, 2) := by decide +kernel
theorem dX12_init_60 : decode cX12_init 60 = .ok (.putfield 28, 3) := by decide +kernel
theorem dX12_init_63 : decode cX12_init 63 = .ok (.aload_n 0, 1) := by decide +kernel
theorem dX12_init_64 : decode cX12_init 64 = .ok (.sipush 700, 3) := by decide +kernel
theorem dX12_init_67 : decode cX12_init 67 = .ok (.newarray .int, 2) := by decide +kernel
theorem dX12_init_69 : decode cX12_init 69 = .ok (.putfield 31, 3) := by decide +kernel
theorem dX12_init_72 : decode cX12_init 72 = .ok (.aload_n 0, 1) := by decide +kernel
theorem dX12_init_73 : decode cX12_init 73 = .ok (.bipush 6, 2) := by decide +kernel
theorem dX12_init_75 : decode cX12_init 75 = .ok (.newarray .int, 2) := by decide +kernel
theorem dX12_init_77 : decode cX12_init 77 = .ok (.putfield 34, 3) := by decide +kernel
theorem dX12_init_80 : decode cX12_init 80 = .ok (.aload_n 0, 1) := by decide +kernel
theorem dX12_init_81 : decode cX12_init 81 = .ok (.bipush 80, 2) := by decide +kernel
theorem dX12_init_83 : decode cX12_init 83 = .ok (.newarray .int, 2) := by decide +kernel
theorem dX12_init_85 : decode cX12_init 85 = .ok (.putfield 37, 3) := by decide +kernel
theorem dX12_init_88 : decode cX12_init 88 = .ok (.aload_n 0, 1) := by decide +kernel
theorem dX12_init_89 : decode cX12_init 89 = .ok (.iconst 4, 1) := by decide +kernel
theorem dX12_init_90 : decode cX12_init 90 = .ok (.newarray .int, 2) := by decide +kernel
theorem dX12_init_92 : decode cX12_init 92 = .ok (.putfield 40, 3) := by decide +kernel
theorem dX12_init_95 : decode cX12_init 95 = .ok (.aload_n 0, 1) := by decide +kernel
theorem dX12_init_96 : decode cX12_init 96 = .ok (.bipush 8, 2) := by decide +kernel
theorem dX12_init_98 : decode cX12_init 98 = .ok (.newarray .int, 2) := by decide +kernel
theorem dX12_init_100 : decode cX12_init 100 = .ok (.putfield 43, 3) := by decide +kernel
theorem dX12_init_103 : decode cX12_init 103 = .ok (.aload_n 0, 1) := by decide +kernel
theorem dX12_init_104 : decode cX12_init 104 = .ok (.iconst 4, 1) := by decide +kernel
theorem dX12_init_105 : decode cX12_init 105 = .ok (.newarray .int, 2) := by decide +kernel
theorem dX12_init_107 : decode cX12_init 107 = .ok (.putfield 46, 3) := by decide +kernel
theorem dX12_init_110 : decode cX12_init 110 = .ok (.aload_n 0, 1) := by decide +kernel
theorem dX12_init_111 : decode cX12_init 111 = .ok (.bipush 8, 2) := by decide +kernel
theorem dX12_init_113 : decode cX12_init 113 = .ok (.newarray .int, 2) := by decide +kernel
theorem dX12_init_115 : decode cX12_init 115 = .ok (.putfield 49, 3) := by decide +kernel
theorem dX12_init_118 : decode cX12_init 118 = .ok (.aload_n 0, 1) := by decide +kernel
theorem dX12_init_119 : decode cX12_init 119 = .ok (.sipush 336, 3) := by decide +kernel
theorem dX12_init_122 : decode cX12_init 122 = .ok (.newarray .int, 2) := by decide +kernel
theorem dX12_init_124 : decode cX12_init 124 = .ok (.putfield 52, 3) := by decide +kernel
theorem dX12_init_127 : decode cX12_init 127 = .ok (.aload_n 0, 1) := by decide +kernel
theorem dX12_init_128 : decode cX12_init 128 = .ok (.bipush 7, 2) := by decide +kernel
theorem dX12_init_130 : decode cX12_init 130 = .ok (.newarray .int, 2) := by decide +kernel
theorem dX12_init_132 : decode cX12_init 132 = .ok (.putfield 55, 3) := by decide +kernel
theorem dX12_init_135 : decode cX12_init 135 = .ok (.aload_n 0, 1) := by decide +kernel
theorem dX12_init_136 : decode cX12_init 136 = .ok (.bipush 28, 2) := by decide +kernel
theorem dX12_init_138 : decode cX12_init 138 = .ok (.newarray .int, 2) := by decide +kernel
theorem dX12_init_140 : decode cX12_init 140 = .ok (.putfield 58, 3) := by decide +kernel
theorem dX12_init_143 : decode cX12_init 143 = .ok (.aload_n 0, 1) := by decide +kernel
theorem dX12_init_144 : decode cX12_init 144 = .ok (.sipush 943, 3) := by decide +kernel
theorem dX12_init_147 : decode cX12_init 147 = .ok (.newarray .int, 2) := by decide +kernel
theorem dX12_init_149 : decode cX12_init 149 = .ok (.putfield 61, 3) := by decide +kernel
theorem dX12_init_152 : decode cX12_init 152 = .ok (.aload_n 0, 1) := by decide +kernel
theorem dX12_init_153 : decode cX12_init 153 = .ok (.iconst 5, 1) := by decide +kernel
theorem dX12_init_154 : decode cX12_init 154 = .ok (.newarray .int, 2) := by decide +kernel
theorem dX12_init_156 : decode cX12_init 156 = .ok (.putfield 64, 3) := by decide +kernel
theorem dX12_init_159 : decode cX12_init 159 = .ok (.aload_n 0, 1) := by decide +kernel
theorem dX12_init_160 : decode cX12_init 160 = .ok (.iconst (-1), 1) := by decide +kernel
theorem dX12_init_161 : decode cX12_init 161 = .ok (.putfield 67, 3) := by decide +kernel
theorem dX12_init_164 : decode cX12_init 164 = .ok (.aload_n 0, 1) := by decide +kernel
theorem dX12_init_165 : decode cX12_init 165 = .ok (.iconst 4, 1) := by decide +kernel
theorem dX12_init_166 : decode cX12_init 166 = .ok (.putfield 71, 3) := by decide +kernel
theorem dX12_init_169 : decode cX12_init 169 = .ok (.aload_n 0, 1) := by decide +kernel
theorem dX12_init_170 : decode cX12_init 170 = .ok (.ldc 74, 2) := by decide +kernel
theorem dX12_init_172 : decode cX12_init 172 = .ok (.newarray .int, 2) := by decide +kernel
theorem dX12_init_174 : decode cX12_init 174 = .ok (.putfield 75, 3) := by decide +kernel
theorem dX12_init_177 : decode cX12_init 177 = .ok (.aload_n 0, 1) := by decide +kernel
theorem dX12_init_178 : decode cX12_init 178 = .ok (.bipush 6, 2) := by decide +kernel
theorem dX12_init_180 : decode cX12_init 180 = .ok (.newarray .int, 2) := by decide +kernel
theorem dX12_init_182 : decode cX12_init 182 = .ok (.putfield 78, 3) := by decide +kernel
theorem dX12_init_185 : decode cX12_init 185 = .ok (.aload_n 0, 1) := by decide +kernel
theorem dX12_init_186 : decode cX12_init 186 = .ok (.sipush 762, 3) := by decide +kernel
theorem dX12_init_189 : decode cX12_init 189 = .ok (.newarray .int, 2) := by decide +kernel
theorem dX12_init_191 : decode cX12_init 191 = .ok (.putfield 81, 3) := by decide +kernel
theorem dX12_init_194 : decode cX12_init 194 = .ok (.aload_n 0, 1) := by decide +kernel
theorem dX12_init_195 : decode cX12_init 195 = .ok (.sipush 275, 3) := by decide +kernel
theorem dX12_init_198 : decode cX12_init 198 = .ok (.newarray .int, 2) := by decide +kernel
theorem dX12_init_200 : decode cX12_init 200 = .ok (.putfield 84, 3) := by decide +kernel
theorem dX12_init_203 : decode cX12_init 203 = .ok (.aload_n 0, 1) := by decide +kernel
theorem dX12_init_204 : decode cX12_init 204 = .ok (.bipush 17, 2) := by decide +kernel
theorem dX12_init_206 : decode cX12_init 206 = .ok (.newarray .int, 2) := by decide +kernel
theorem dX12_init_208 : decode cX12_init 208 = .ok (.putfield 87, 3) := by decide +kernel
theorem dX12_init_211 : decode cX12_init 211 = .ok (.aload_n 0, 1) := by decide +kernel
theorem dX12_init_212 : decode cX12_init 212 = .ok (.bipush 17, 2) := by decide +kernel
theorem dX12_init_214 : decode cX12_init 214 = .ok (.newarray .int, 2) := by decide +kernel
theorem dX12_init_216 : decode cX12_init 216 = .ok (.putfield 90, 3) := by decide +kernel
theorem dX12_init_219 : decode cX12_init 219 = .ok (.aload_n 0, 1) := by decide +kernel
theorem dX12_init_220 : decode cX12_init 220 = .ok (.bipush 10, 2) := by decide +kernel
theorem dX12_init_222 : decode cX12_init 222 = .ok (.newarray .int, 2) := by decide +kernel
theorem dX12_init_224 : decode cX12_init 224 = .ok (.putfield 93, 3) := by decide +kernel
theorem dX12_init_227 : decode cX12_init 227 = .ok (.aload_n 0, 1) := by decide +kernel
theorem dX12_init_228 : decode cX12_init 228 = .ok (.bipush 10, 2) := by decide +kernel
theorem dX12_init_230 : decode cX12_init 230 = .ok (.newarray .int, 2) := by decide +kernel
theorem dX12_init_232 : decode cX12_init 232 = .ok (.putfield 96, 3) := by decide +kernel
theorem dX12_init_235 : decode cX12_init 235 = .ok (.aload_n 0, 1) := by decide +kernel
theorem dX12_init_236 : decode cX12_init 236 = .ok (.bipush 10, 2) := by decide +kernel
theorem dX12_init_238 : decode cX12_init 238 = .ok (.newarray .boolean, 2) := by decide +kernel
theorem dX12_init_240 : decode cX12_init 240 = .ok (.putfield 99, 3) := by decide +kernel
theorem dX12_init_243 : decode cX12_init 243 = .ok (.aload_n 0, 1) := by decide +kernel
theorem dX12_init_244 : decode cX12_init 244 = .ok (.sipush 1080, 3) := by decide +kernel
theorem dX12_init_247 : decode cX12_init 247 = .ok (.newarray .int, 2) := by decide +kernel
theorem dX12_init_249 : decode cX12_init 249 = .ok (.putfield 103, 3) := by decide +kernel
theorem dX12_init_252 : decode cX12_init 252 = .ok (.aload_n 0, 1) := by decide +kernel
theorem dX12_init_253 : decode cX12_init 253 = .ok (.sipush 943, 3) := by decide +kernel
theorem dX12_init_256 : decode cX12_init 256 = .ok (.newarray .int, 2) := by decide +kernel
theorem dX12_init_258 : decode cX12_init 258 = .ok (.putfield 106, 3) := by decide +kernel
theorem dX12_init_261 : decode cX12_init 261 = .ok (.return_, 1) := by decide +kernel
set_option maxRecDepth 20000 in
def kX12_init_0 (g : sk_G) (d ck sk : Nat) (Q : sk_P) : sk_K := o_aload 0 (o_obj (g, d, ck, sk, xX12_init, Q) (o_aload 0 (o_i (240) (o_newa (g, d, ck, sk, xX12_init, Q) 20 240 (sk_I (fun _ => 0)) (o_puta 12 1 (o_aload 0 (o_i (2600) (o_newa (g, d, ck - 1, sk - 240, xX12_init, Q) 20 2600 (sk_I (fun _ => 0)) (o_puta 12 6 (o_aload 0 (o_i (2600) (o_newa (g, d, ck - 1 - 1, sk - 240 - 2600, xX12_init, Q) 20 2600 (sk_I (fun _ => 0)) (o_puta 12 7 (o_aload 0 (o_i (5) (o_newa (g, d, ck - 1 - 1 - 1, sk - 240 - 2600 - 2600, xX12_init, Q) 20 5 (sk_I (fun _ => 0)) (o_puta 12 8 (o_aload 0 (o_i (5) (o_newa (g, d, ck - 1 - 1 - 1 - 1, sk - 240 - 2600 - 2600 - 5, xX12_init, Q) 20 5 (sk_I (fun _ => 0)) (o_puta 12 9 (o_aload 0 (o_i (700) (o_newa (g, d, ck - 1 - 1 - 1 - 1 - 1, sk - 240 - 2600 - 2600 - 5 - 5, xX12_init, Q) 20 700 (sk_I (fun _ => 0)) (o_puta 12 10 (o_aload 0 (o_i (700) (o_newa (g, d, ck - 1 - 1 - 1 - 1 - 1 - 1, sk - 240 - 2600 - 2600 - 5 - 5 - 700, xX12_init, Q) 20 700 (sk_I (fun _ => 0)) (o_puta 12 11 (o_aload 0 (o_i (700) (o_newa (g, d, ck - 1 - 1 - 1 - 1 - 1 - 1 - 1, sk - 240 - 2600 - 2600 - 5 - 5 - 700 - 700, xX12_init, Q) 20 700 (sk_I (fun _ => 0)) (o_puta 12 12 (o_aload 0 (o_i (6) (o_newa (g, d, ck - 1 - 1 - 1 - 1 - 1 - 1 - 1 - 1, sk - 240 - 2600 - 2600 - 5 - 5 - 700 - 700 - 700, xX12_init, Q) 20 6 (sk_I (fun _ => 0)) (o_puta 12 15 (o_aload 0 (o_i (80) (o_newa (g, d, ck - 1 - 1 - 1 - 1 - 1 - 1 - 1 - 1 - 1, sk - 240 - 2600 - 2600 - 5 - 5 - 700 - 700 - 700 - 6, xX12_init, Q) 20 80 (sk_I (fun _ => 0)) (o_puta 12 16 (o_aload 0 (o_i (4) (o_newa (g, d, ck - 1 - 1 - 1 - 1 - 1 - 1 - 1 - 1 - 1 - 1, sk - 240 - 2600 - 2600 - 5 - 5 - 700 - 700 - 700 - 6 - 80, xX12_init, Q) 20 4 (sk_I (fun _ => 0)) (o_puta 12 17 (o_aload 0 (o_i (8) (o_newa (g, d, ck - 1 - 1 - 1 - 1 - 1 - 1 - 1 - 1 - 1 - 1 - 1, sk - 240 - 2600 - 2600 - 5 - 5 - 700 - 700 - 700 - 6 - 80 - 4, xX12_init, Q) 20 8 (sk_I (fun _ => 0)) (o_puta 12 18 (o_aload 0 (o_i (4) (o_newa (g, d, ck - 1 - 1 - 1 - 1 - 1 - 1 - 1 - 1 - 1 - 1 - 1 - 1, sk - 240 - 2600 - 2600 - 5 - 5 - 700 - 700 - 700 - 6 - 80 - 4 - 8, xX12_init, Q) 20 4 (sk_I (fun _ => 0)) (o_puta 12 20 (o_aload 0 (o_i (8) (o_newa (g, d, ck - 1 - 1 - 1 - 1 - 1 - 1 - 1 - 1 - 1 - 1 - 1 - 1 - 1, sk - 240 - 2600 - 2600 - 5 - 5 - 700 - 700 - 700 - 6 - 80 - 4 - 8 - 4, xX12_init, Q) 20 8 (sk_I (fun _ => 0)) (o_puta 12 21 (o_aload 0 (o_i (336) (o_newa (g, d, ck - 1 - 1 - 1 - 1 - 1 - 1 - 1 - 1 - 1 - 1 - 1 - 1 - 1 - 1, sk - 240 - 2600 - 2600 - 5 - 5 - 700 - 700 - 700 - 6 - 80 - 4 - 8 - 4 - 8, xX12_init, Q) 20 336 (sk_I (fun _ => 0)) (o_puta 12 24 (o_aload 0 (o_i (7) (o_newa (g, d, ck - 1 - 1 - 1 - 1 - 1 - 1 - 1 - 1 - 1 - 1 - 1 - 1 - 1 - 1 - 1, sk - 240 - 2600 - 2600 - 5 - 5 - 700 - 700 - 700 - 6 - 80 - 4 - 8 - 4 - 8 - 336, xX12_init, Q) 20 7 (sk_I (fun _ => 0)) (o_puta 12 25 (o_aload 0 (o_i (28) (o_newa (g, d, ck - 1 - 1 - 1 - 1 - 1 - 1 - 1 - 1 - 1 - 1 - 1 - 1 - 1 - 1 - 1 - 1, sk - 240 - 2600 - 2600 - 5 - 5 - 700 - 700 - 700 - 6 - 80 - 4 - 8 - 4 - 8 - 336 - 7, xX12_init, Q) 20 28 (sk_I (fun _ => 0)) (o_puta 12 26 (o_aload 0 (o_i (943) (o_newa (g, d, ck - 1 - 1 - 1 - 1 - 1 - 1 - 1 - 1 - 1 - 1 - 1 - 1 - 1 - 1 - 1 - 1 - 1, sk - 240 - 2600 - 2600 - 5 - 5 - 700 - 700 - 700 - 6 - 80 - 4 - 8 - 4 - 8 - 336 - 7 - 28, xX12_init, Q) 20 943 (sk_I (fun _ => 0)) (o_puta 12 28 (o_aload 0 (o_i (5) (o_newa (g, d, ck - 1 - 1 - 1 - 1 - 1 - 1 - 1 - 1 - 1 - 1 - 1 - 1 - 1 - 1 - 1 - 1 - 1 - 1, sk - 240 - 2600 - 2600 - 5 - 5 - 700 - 700 - 700 - 6 - 80 - 4 - 8 - 4 - 8 - 336 - 7 - 28 - 943, xX12_init, Q) 20 5 (sk_I (fun _ => 0)) (o_puta 12 29 (o_aload 0 (o_i (-1) (o_puti 12 30 (o_aload 0 (o_i (4) (o_puti 12 31 (o_aload 0 (o_i (37720) (o_newa (g, d, ck - 1 - 1 - 1 - 1 - 1 - 1 - 1 - 1 - 1 - 1 - 1 - 1 - 1 - 1 - 1 - 1 - 1 - 1 - 1, sk - 240 - 2600 - 2600 - 5 - 5 - 700 - 700 - 700 - 6 - 80 - 4 - 8 - 4 - 8 - 336 - 7 - 28 - 943 - 5, xX12_init, Q) 20 37720 (sk_I (fun _ => 0)) (o_puta 12 32 (o_aload 0 (o_i (6) (o_newa (g, d, ck - 1 - 1 - 1 - 1 - 1 - 1 - 1 - 1 - 1 - 1 - 1 - 1 - 1 - 1 - 1 - 1 - 1 - 1 - 1 - 1, sk - 240 - 2600 - 2600 - 5 - 5 - 700 - 700 - 700 - 6 - 80 - 4 - 8 - 4 - 8 - 336 - 7 - 28 - 943 - 5 - 37720, xX12_init, Q) 20 6 (sk_I (fun _ => 0)) (o_puta 12 37 (o_aload 0 (o_i (762) (o_newa (g, d, ck - 1 - 1 - 1 - 1 - 1 - 1 - 1 - 1 - 1 - 1 - 1 - 1 - 1 - 1 - 1 - 1 - 1 - 1 - 1 - 1 - 1, sk - 240 - 2600 - 2600 - 5 - 5 - 700 - 700 - 700 - 6 - 80 - 4 - 8 - 4 - 8 - 336 - 7 - 28 - 943 - 5 - 37720 - 6, xX12_init, Q) 20 762 (sk_I (fun _ => 0)) (o_puta 12 38 (o_aload 0 (o_i (275) (o_newa (g, d, ck - 1 - 1 - 1 - 1 - 1 - 1 - 1 - 1 - 1 - 1 - 1 - 1 - 1 - 1 - 1 - 1 - 1 - 1 - 1 - 1 - 1 - 1, sk - 240 - 2600 - 2600 - 5 - 5 - 700 - 700 - 700 - 6 - 80 - 4 - 8 - 4 - 8 - 336 - 7 - 28 - 943 - 5 - 37720 - 6 - 762, xX12_init, Q) 20 275 (sk_I (fun _ => 0)) (o_puta 12 39 (o_aload 0 (o_i (17) (o_newa (g, d, ck - 1 - 1 - 1 - 1 - 1 - 1 - 1 - 1 - 1 - 1 - 1 - 1 - 1 - 1 - 1 - 1 - 1 - 1 - 1 - 1 - 1 - 1 - 1, sk - 240 - 2600 - 2600 - 5 - 5 - 700 - 700 - 700 - 6 - 80 - 4 - 8 - 4 - 8 - 336 - 7 - 28 - 943 - 5 - 37720 - 6 - 762 - 275, xX12_init, Q) 20 17 (sk_I (fun _ => 0)) (o_puta 12 40 (o_aload 0 (o_i (17) (o_newa (g, d, ck - 1 - 1 - 1 - 1 - 1 - 1 - 1 - 1 - 1 - 1 - 1 - 1 - 1 - 1 - 1 - 1 - 1 - 1 - 1 - 1 - 1 - 1 - 1 - 1, sk - 240 - 2600 - 2600 - 5 - 5 - 700 - 700 - 700 - 6 - 80 - 4 - 8 - 4 - 8 - 336 - 7 - 28 - 943 - 5 - 37720 - 6 - 762 - 275 - 17, xX12_init, Q) 20 17 (sk_I (fun _ => 0)) (o_puta 12 41 (o_aload 0 (o_i (10) (o_newa (g, d, ck - 1 - 1 - 1 - 1 - 1 - 1 - 1 - 1 - 1 - 1 - 1 - 1 - 1 - 1 - 1 - 1 - 1 - 1 - 1 - 1 - 1 - 1 - 1 - 1 - 1, sk - 240 - 2600 - 2600 - 5 - 5 - 700 - 700 - 700 - 6 - 80 - 4 - 8 - 4 - 8 - 336 - 7 - 28 - 943 - 5 - 37720 - 6 - 762 - 275 - 17 - 17, xX12_init, Q) 20 10 (sk_I (fun _ => 0)) (o_puta 12 42 (o_aload 0 (o_i (10) (o_newa (g, d, ck - 1 - 1 - 1 - 1 - 1 - 1 - 1 - 1 - 1 - 1 - 1 - 1 - 1 - 1 - 1 - 1 - 1 - 1 - 1 - 1 - 1 - 1 - 1 - 1 - 1 - 1, sk - 240 - 2600 - 2600 - 5 - 5 - 700 - 700 - 700 - 6 - 80 - 4 - 8 - 4 - 8 - 336 - 7 - 28 - 943 - 5 - 37720 - 6 - 762 - 275 - 17 - 17 - 10, xX12_init, Q) 20 10 (sk_I (fun _ => 0)) (o_puta 12 43 (o_aload 0 (o_i (10) (o_newa (g, d, ck - 1 - 1 - 1 - 1 - 1 - 1 - 1 - 1 - 1 - 1 - 1 - 1 - 1 - 1 - 1 - 1 - 1 - 1 - 1 - 1 - 1 - 1 - 1 - 1 - 1 - 1 - 1, sk - 240 - 2600 - 2600 - 5 - 5 - 700 - 700 - 700 - 6 - 80 - 4 - 8 - 4 - 8 - 336 - 7 - 28 - 943 - 5 - 37720 - 6 - 762 - 275 - 17 - 17 - 10 - 10, xX12_init, Q) 21 10 (sk_I (fun _ => 0)) (o_puta 12 44 (o_aload 0 (o_i (1080) (o_newa (g, d, ck - 1 - 1 - 1 - 1 - 1 - 1 - 1 - 1 - 1 - 1 - 1 - 1 - 1 - 1 - 1 - 1 - 1 - 1 - 1 - 1 - 1 - 1 - 1 - 1 - 1 - 1 - 1 - 1, sk - 240 - 2600 - 2600 - 5 - 5 - 700 - 700 - 700 - 6 - 80 - 4 - 8 - 4 - 8 - 336 - 7 - 28 - 943 - 5 - 37720 - 6 - 762 - 275 - 17 - 17 - 10 - 10 - 10, xX12_init, Q) 20 1080 (sk_I (fun _ => 0)) (o_puta 12 46 (o_aload 0 (o_i (943) (o_newa (g, d, ck - 1 - 1 - 1 - 1 - 1 - 1 - 1 - 1 - 1 - 1 - 1 - 1 - 1 - 1 - 1 - 1 - 1 - 1 - 1 - 1 - 1 - 1 - 1 - 1 - 1 - 1 - 1 - 1 - 1, sk - 240 - 2600 - 2600 - 5 - 5 - 700 - 700 - 700 - 6 - 80 - 4 - 8 - 4 - 8 - 336 - 7 - 28 - 943 - 5 - 37720 - 6 - 762 - 275 - 17 - 17 - 10 - 10 - 10 - 1080, xX12_init, Q) 20 943 (sk_I (fun _ => 0)) (o_puta 12 47 (o_ret (g, d, ck - 1 - 1 - 1 - 1 - 1 - 1 - 1 - 1 - 1 - 1 - 1 - 1 - 1 - 1 - 1 - 1 - 1 - 1 - 1 - 1 - 1 - 1 - 1 - 1 - 1 - 1 - 1 - 1 - 1 - 1, sk - 240 - 2600 - 2600 - 5 - 5 - 700 - 700 - 700 - 6 - 80 - 4 - 8 - 4 - 8 - 336 - 7 - 28 - 943 - 5 - 37720 - 6 - 762 - 275 - 17 - 17 - 10 - 10 - 10 - 1080 - 943, xX12_init, Q)))))))))))))))))))))))))))))))))))))))))))))))))))))))))))))))))))))))))))))))))))))))))))))))))))))))))))))))))))))))))))))))))
set_option maxRecDepth 20000 in
theorem tX12_init_0 {g : sk_G} {d ck sk : Nat} {Q : sk_P} : sk_S (g, d, ck, sk, xX12_init, Q) 0 (kX12_init_0 g d ck sk Q) := s_aload_n dX12_init_0 rfl (s_obj dX12_init_1 qm_X12_3 qi_obj qc_obj (s_aload_n dX12_init_4 rfl (s_sipush dX12_init_5 rfl (s_newI (w' := (g, d, ck - 1, sk - 240, xX12_init, Q)) (N := 240) dX12_init_8 (by decide) qr_int rfl (s_putaF (ci := 12) (j := 1) (C := RX12) (T := TX12) (N := 49) dX12_init_10 rfl (by decide) (by decide) rfl rfl rfl (Or.inr ⟨_, rfl⟩) (tyX12_ok 1 (by decide)) qf_X12_9 (s_aload_n dX12_init_13 rfl (s_sipush dX12_init_14 rfl (s_newI (w' := (g, d, ck - 1 - 1, sk - 240 - 2600, xX12_init, Q)) (N := 2600) dX12_init_17 (by decide) qr_int rfl (s_putaF (ci := 12) (j := 6) (C := RX12) (T := TX12) (N := 49) dX12_init_19 rfl (by decide) (by decide) rfl rfl rfl (Or.inr ⟨_, rfl⟩) (tyX12_ok 6 (by decide)) qf_X12_13 (s_aload_n dX12_init_22 rfl (s_sipush dX12_init_23 rfl (s_newI (w' := (g, d, ck - 1 - 1 - 1, sk - 240 - 2600 - 2600, xX12_init, Q)) (N := 2600) dX12_init_26 (by decide) qr_int rfl (s_putaF (ci := 12) (j := 7) (C := RX12) (T := TX12) (N := 49) dX12_init_28 rfl (by decide) (by decide) rfl rfl rfl (Or.inr ⟨_, rfl⟩) (tyX12_ok 7 (by decide)) qf_X12_16 (s_aload_n dX12_init_31 rfl (s_iconst dX12_init_32 (s_newI (w' := (g, d, ck - 1 - 1 - 1 - 1, sk - 240 - 2600 - 2600 - 5, xX12_init, Q)) (N := 5) dX12_init_33 (by decide) qr_int rfl (s_putaF (ci := 12) (j := 8) (C := RX12) (T := TX12) (N := 49) dX12_init_35 rfl (by decide) (by decide) rfl rfl rfl (Or.inr ⟨_, rfl⟩) (tyX12_ok 8 (by decide)) qf_X12_19 (s_aload_n dX12_init_38 rfl (s_iconst dX12_init_39 (s_newI (w' := (g, d, ck - 1 - 1 - 1 - 1 - 1, sk - 240 - 2600 - 2600 - 5 - 5, xX12_init, Q)) (N := 5) dX12_init_40 (by decide) qr_int rfl (s_putaF (ci := 12) (j := 9) (C := RX12) (T := TX12) (N := 49) dX12_init_42 rfl (by decide) (by decide) rfl rfl rfl (Or.inr ⟨_, rfl⟩) (tyX12_ok 9 (by decide)) qf_X12_22 (s_aload_n dX12_init_45 rfl (s_sipush dX12_init_46 rfl (s_newI (w' := (g, d, ck - 1 - 1 - 1 - 1 - 1 - 1, sk - 240 - 2600 - 2600 - 5 - 5 - 700, xX12_init, Q)) (N := 700) dX12_init_49 (by decide) qr_int rfl (s_putaF (ci := 12) (j := 10) (C := RX12) (T := TX12) (N := 49) dX12_init_51 rfl (by decide) (by decide) rfl rfl rfl (Or.inr ⟨_, rfl⟩) (tyX12_ok 10 (by decide)) qf_X12_25 (s_aload_n dX12_init_54 rfl (s_sipush dX12_init_55 rfl (s_newI (w' := (g, d, ck - 1 - 1 - 1 - 1 - 1 - 1 - 1, sk - 240 - 2600 - 2600 - 5 - 5 - 700 - 700, xX12_init, Q)) (N := 700) dX12_init_58 (by decide) qr_int rfl (s_putaF (ci := 12) (j := 11) (C := RX12) (T := TX12) (N := 49) dX12_init_60 rfl (by decide) (by decide) rfl rfl rfl (Or.inr ⟨_, rfl⟩) (tyX12_ok 11 (by decide)) qf_X12_28 (s_aload_n dX12_init_63 rfl (s_sipush dX12_init_64 rfl (s_newI (w' := (g, d, ck - 1 - 1 - 1 - 1 - 1 - 1 - 1 - 1, sk - 240 - 2600 - 2600 - 5 - 5 - 700 - 700 - 700, xX12_init, Q)) (N := 700) dX12_init_67 (by decide) qr_int rfl (s_putaF (ci := 12) (j := 12) (C := RX12) (T := TX12) (N := 49) dX12_init_69 rfl (by decide) (by decide) rfl rfl rfl (Or.inr ⟨_, rfl⟩) (tyX12_ok 12 (by decide)) qf_X12_31 (s_aload_n dX12_init_72 rfl (s_bipush dX12_init_73 rfl (s_newI (w' := (g, d, ck - 1 - 1 - 1 - 1 - 1 - 1 - 1 - 1 - 1, sk - 240 - 2600 - 2600 - 5 - 5 - 700 - 700 - 700 - 6, xX12_init, Q)) (N := 6) dX12_init_75 (by decide) qr_int rfl (s_putaF (ci := 12) (j := 15) (C := RX12) (T := TX12) (N := 49) dX12_init_77 rfl (by decide) (by decide) rfl rfl rfl (Or.inr ⟨_, rfl⟩) (tyX12_ok 15 (by decide)) qf_X12_34 (s_aload_n dX12_init_80 rfl (s_bipush dX12_init_81 rfl (s_newI (w' := (g, d, ck - 1 - 1 - 1 - 1 - 1 - 1 - 1 - 1 - 1 - 1, sk - 240 - 2600 - 2600 - 5 - 5 - 700 - 700 - 700 - 6 - 80, xX12_init, Q)) (N := 80) dX12_init_83 (by decide) qr_int rfl (s_putaF (ci := 12) (j := 16) (C := RX12) (T := TX12) (N := 49) dX12_init_85 rfl (by decide) (by decide) rfl rfl rfl (Or.inr ⟨_, rfl⟩) (tyX12_ok 16 (by decide)) qf_X12_37 (s_aload_n dX12_init_88 rfl (s_iconst dX12_init_89 (s_newI (w' := (g, d, ck - 1 - 1 - 1 - 1 - 1 - 1 - 1 - 1 - 1 - 1 - 1, sk - 240 - 2600 - 2600 - 5 - 5 - 700 - 700 - 700 - 6 - 80 - 4, xX12_init, Q)) (N := 4) dX12_init_90 (by decide) qr_int rfl (s_putaF (ci := 12) (j := 17) (C := RX12) (T := TX12) (N := 49) dX12_init_92 rfl (by decide) (by decide) rfl rfl rfl (Or.inr ⟨_, rfl⟩) (tyX12_ok 17 (by decide)) qf_X12_40 (s_aload_n dX12_init_95 rfl (s_bipush dX12_init_96 rfl (s_newI (w' := (g, d, ck - 1 - 1 - 1 - 1 - 1 - 1 - 1 - 1 - 1 - 1 - 1 - 1, sk - 240 - 2600 - 2600 - 5 - 5 - 700 - 700 - 700 - 6 - 80 - 4 - 8, xX12_init, Q)) (N := 8) dX12_init_98 (by decide) qr_int rfl (s_putaF (ci := 12) (j := 18) (C := RX12) (T := TX12) (N := 49) dX12_init_100 rfl (by decide) (by decide) rfl rfl rfl (Or.inr ⟨_, rfl⟩) (tyX12_ok 18 (by decide)) qf_X12_43 (s_aload_n dX12_init_103 rfl (s_iconst dX12_init_104 (s_newI (w' := (g, d, ck - 1 - 1 - 1 - 1 - 1 - 1 - 1 - 1 - 1 - 1 - 1 - 1 - 1, sk - 240 - 2600 - 2600 - 5 - 5 - 700 - 700 - 700 - 6 - 80 - 4 - 8 - 4, xX12_init, Q)) (N := 4) dX12_init_105 (by decide) qr_int rfl (s_putaF (ci := 12) (j := 20) (C := RX12) (T := TX12) (N := 49) dX12_init_107 rfl (by decide) (by decide) rfl rfl rfl (Or.inr ⟨_, rfl⟩) (tyX12_ok 20 (by decide)) qf_X12_46 (s_aload_n dX12_init_110 rfl (s_bipush dX12_init_111 rfl (s_newI (w' := (g, d, ck - 1 - 1 - 1 - 1 - 1 - 1 - 1 - 1 - 1 - 1 - 1 - 1 - 1 - 1, sk - 240 - 2600 - 2600 - 5 - 5 - 700 - 700 - 700 - 6 - 80 - 4 - 8 - 4 - 8, xX12_init, Q)) (N := 8) dX12_init_113 (by decide) qr_int rfl (s_putaF (ci := 12) (j := 21) (C := RX12) (T := TX12) (N := 49) dX12_init_115 rfl (by decide) (by decide) rfl rfl rfl (Or.inr ⟨_, rfl⟩) (tyX12_ok 21 (by decide)) qf_X12_49 (s_aload_n dX12_init_118 rfl (s_sipush dX12_init_119 rfl (s_newI (w' := (g, d, ck - 1 - 1 - 1 - 1 - 1 - 1 - 1 - 1 - 1 - 1 - 1 - 1 - 1 - 1 - 1, sk - 240 - 2600 - 2600 - 5 - 5 - 700 - 700 - 700 - 6 - 80 - 4 - 8 - 4 - 8 - 336, xX12_init, Q)) (N := 336) dX12_init_122 (by decide) qr_int rfl (s_putaF (ci := 12) (j := 24) (C := RX12) (T := TX12) (N := 49) dX12_init_124 rfl (by decide) (by decide) rfl rfl rfl (Or.inr ⟨_, rfl⟩) (tyX12_ok 24 (by decide)) qf_X12_52 (s_aload_n dX12_init_127 rfl (s_bipush dX12_init_128 rfl (s_newI (w' := (g, d, ck - 1 - 1 - 1 - 1 - 1 - 1 - 1 - 1 - 1 - 1 - 1 - 1 - 1 - 1 - 1 - 1, sk - 240 - 2600 - 2600 - 5 - 5 - 700 - 700 - 700 - 6 - 80 - 4 - 8 - 4 - 8 - 336 - 7, xX12_init, Q)) (N := 7) dX12_init_130 (by decide) qr_int rfl (s_putaF (ci := 12) (j := 25) (C := RX12) (T := TX12) (N := 49) dX12_init_132 rfl (by decide) (by decide) rfl rfl rfl (Or.inr ⟨_, rfl⟩) (tyX12_ok 25 (by decide)) qf_X12_55 (s_aload_n dX12_init_135 rfl (s_bipush dX12_init_136 rfl (s_newI (w' := (g, d, ck - 1 - 1 - 1 - 1 - 1 - 1 - 1 - 1 - 1 - 1 - 1 - 1 - 1 - 1 - 1 - 1 - 1, sk - 240 - 2600 - 2600 - 5 - 5 - 700 - 700 - 700 - 6 - 80 - 4 - 8 - 4 - 8 - 336 - 7 - 28, xX12_init, Q)) (N := 28) dX12_init_138 (by decide) qr_int rfl (s_putaF (ci := 12) (j := 26) (C := RX12) (T := TX12) (N := 49) dX12_init_140 rfl (by decide) (by decide) rfl rfl rfl (Or.inr ⟨_, rfl⟩) (tyX12_ok 26 (by decide)) qf_X12_58 (s_aload_n dX12_init_143 rfl (s_sipush dX12_init_144 rfl (s_newI (w' := (g, d, ck - 1 - 1 - 1 - 1 - 1 - 1 - 1 - 1 - 1 - 1 - 1 - 1 - 1 - 1 - 1 - 1 - 1 - 1, sk - 240 - 2600 - 2600 - 5 - 5 - 700 - 700 - 700 - 6 - 80 - 4 - 8 - 4 - 8 - 336 - 7 - 28 - 943, xX12_init, Q)) (N := 943) dX12_init_147 (by decide) qr_int rfl (s_putaF (ci := 12) (j := 28) (C := RX12) (T := TX12) (N := 49) dX12_init_149 rfl (by decide) (by decide) rfl rfl rfl (Or.inr ⟨_, rfl⟩) (tyX12_ok 28 (by decide)) qf_X12_61 (s_aload_n dX12_init_152 rfl (s_iconst dX12_init_153 (s_newI (w' := (g, d, ck - 1 - 1 - 1 - 1 - 1 - 1 - 1 - 1 - 1 - 1 - 1 - 1 - 1 - 1 - 1 - 1 - 1 - 1 - 1, sk - 240 - 2600 - 2600 - 5 - 5 - 700 - 700 - 700 - 6 - 80 - 4 - 8 - 4 - 8 - 336 - 7 - 28 - 943 - 5, xX12_init, Q)) (N := 5) dX12_init_154 (by decide) qr_int rfl (s_putaF (ci := 12) (j := 29) (C := RX12) (T := TX12) (N := 49) dX12_init_156 rfl (by decide) (by decide) rfl rfl rfl (Or.inr ⟨_, rfl⟩) (tyX12_ok 29 (by decide)) qf_X12_64 (s_aload_n dX12_init_159 rfl (s_iconst dX12_init_160 (s_puti (ci := 12) (j := 30) (C := RX12) (T := TX12) (N := 49) dX12_init_161 rfl (by decide) (by decide) rfl (tyX12_ok 30 (by decide)) qf_X12_67 (s_aload_n dX12_init_164 rfl (s_iconst dX12_init_165 (s_puti (ci := 12) (j := 31) (C := RX12) (T := TX12) (N := 49) dX12_init_166 rfl (by decide) (by decide) rfl (tyX12_ok 31 (by decide)) qf_X12_71 (s_aload_n dX12_init_169 rfl (s_ldc dX12_init_170 qk_X12_74 rfl (s_newI (w' := (g, d, ck - 1 - 1 - 1 - 1 - 1 - 1 - 1 - 1 - 1 - 1 - 1 - 1 - 1 - 1 - 1 - 1 - 1 - 1 - 1 - 1, sk - 240 - 2600 - 2600 - 5 - 5 - 700 - 700 - 700 - 6 - 80 - 4 - 8 - 4 - 8 - 336 - 7 - 28 - 943 - 5 - 37720, xX12_init, Q)) (N := 37720) dX12_init_172 (by decide) qr_int rfl (s_putaF (ci := 12) (j := 32) (C := RX12) (T := TX12) (N := 49) dX12_init_174 rfl (by decide) (by decide) rfl rfl rfl (Or.inr ⟨_, rfl⟩) (tyX12_ok 32 (by decide)) qf_X12_75 (s_aload_n dX12_init_177 rfl (s_bipush dX12_init_178 rfl (s_newI (w' := (g, d, ck - 1 - 1 - 1 - 1 - 1 - 1 - 1 - 1 - 1 - 1 - 1 - 1 - 1 - 1 - 1 - 1 - 1 - 1 - 1 - 1 - 1, sk - 240 - 2600 - 2600 - 5 - 5 - 700 - 700 - 700 - 6 - 80 - 4 - 8 - 4 - 8 - 336 - 7 - 28 - 943 - 5 - 37720 - 6, xX12_init, Q)) (N := 6) dX12_init_180 (by decide) qr_int rfl (s_putaF (ci := 12) (j := 37) (C := RX12) (T := TX12) (N := 49) dX12_init_182 rfl (by decide) (by decide) rfl rfl rfl (Or.inr ⟨_, rfl⟩) (tyX12_ok 37 (by decide)) qf_X12_78 (s_aload_n dX12_init_185 rfl (s_sipush dX12_init_186 rfl (s_newI (w' := (g, d, ck - 1 - 1 - 1 - 1 - 1 - 1 - 1 - 1 - 1 - 1 - 1 - 1 - 1 - 1 - 1 - 1 - 1 - 1 - 1 - 1 - 1 - 1, sk - 240 - 2600 - 2600 - 5 - 5 - 700 - 700 - 700 - 6 - 80 - 4 - 8 - 4 - 8 - 336 - 7 - 28 - 943 - 5 - 37720 - 6 - 762, xX12_init, Q)) (N := 762) dX12_init_189 (by decide) qr_int rfl (s_putaF (ci := 12) (j := 38) (C := RX12) (T := TX12) (N := 49) dX12_init_191 rfl (by decide) (by decide) rfl rfl rfl (Or.inr ⟨_, rfl⟩) (tyX12_ok 38 (by decide)) qf_X12_81 (s_aload_n dX12_init_194 rfl (s_sipush dX12_init_195 rfl (s_newI (w' := (g, d, ck - 1 - 1 - 1 - 1 - 1 - 1 - 1 - 1 - 1 - 1 - 1 - 1 - 1 - 1 - 1 - 1 - 1 - 1 - 1 - 1 - 1 - 1 - 1, sk - 240 - 2600 - 2600 - 5 - 5 - 700 - 700 - 700 - 6 - 80 - 4 - 8 - 4 - 8 - 336 - 7 - 28 - 943 - 5 - 37720 - 6 - 762 - 275, xX12_init, Q)) (N := 275) dX12_init_198 (by decide) qr_int rfl (s_putaF (ci := 12) (j := 39) (C := RX12) (T := TX12) (N := 49) dX12_init_200 rfl (by decide) (by decide) rfl rfl rfl (Or.inr ⟨_, rfl⟩) (tyX12_ok 39 (by decide)) qf_X12_84 (s_aload_n dX12_init_203 rfl (s_bipush dX12_init_204 rfl (s_newI (w' := (g, d, ck - 1 - 1 - 1 - 1 - 1 - 1 - 1 - 1 - 1 - 1 - 1 - 1 - 1 - 1 - 1 - 1 - 1 - 1 - 1 - 1 - 1 - 1 - 1 - 1, sk - 240 - 2600 - 2600 - 5 - 5 - 700 - 700 - 700 - 6 - 80 - 4 - 8 - 4 - 8 - 336 - 7 - 28 - 943 - 5 - 37720 - 6 - 762 - 275 - 17, xX12_init, Q)) (N := 17) dX12_init_206 (by decide) qr_int rfl (s_putaF (ci := 12) (j := 40) (C := RX12) (T := TX12) (N := 49) dX12_init_208 rfl (by decide) (by decide) rfl rfl rfl (Or.inr ⟨_, rfl⟩) (tyX12_ok 40 (by decide)) qf_X12_87 (s_aload_n dX12_init_211 rfl (s_bipush dX12_init_212 rfl (s_newI (w' := (g, d, ck - 1 - 1 - 1 - 1 - 1 - 1 - 1 - 1 - 1 - 1 - 1 - 1 - 1 - 1 - 1 - 1 - 1 - 1 - 1 - 1 - 1 - 1 - 1 - 1 - 1, sk - 240 - 2600 - 2600 - 5 - 5 - 700 - 700 - 700 - 6 - 80 - 4 - 8 - 4 - 8 - 336 - 7 - 28 - 943 - 5 - 37720 - 6 - 762 - 275 - 17 - 17, xX12_init, Q)) (N := 17) dX12_init_214 (by decide) qr_int rfl (s_putaF (ci := 12) (j := 41) (C := RX12) (T := TX12) (N := 49) dX12_init_216 rfl (by decide) (by decide) rfl rfl rfl (Or.inr ⟨_, rfl⟩) (tyX12_ok 41 (by decide)) qf_X12_90 (s_aload_n dX12_init_219 rfl (s_bipush dX12_init_220 rfl (s_newI (w' := (g, d, ck - 1 - 1 - 1 - 1 - 1 - 1 - 1 - 1 - 1 - 1 - 1 - 1 - 1 - 1 - 1 - 1 - 1 - 1 - 1 - 1 - 1 - 1 - 1 - 1 - 1 - 1, sk - 240 - 2600 - 2600 - 5 - 5 - 700 - 700 - 700 - 6 - 80 - 4 - 8 - 4 - 8 - 336 - 7 - 28 - 943 - 5 - 37720 - 6 - 762 - 275 - 17 - 17 - 10, xX12_init, Q)) (N := 10) dX12_init_222 (by decide) qr_int rfl (s_putaF (ci := 12) (j := 42) (C := RX12) (T := TX12) (N := 49) dX12_init_224 rfl (by decide) (by decide) rfl rfl rfl (Or.inr ⟨_, rfl⟩) (tyX12_ok 42 (by decide)) qf_X12_93 (s_aload_n dX12_init_227 rfl (s_bipush dX12_init_228 rfl (s_newI (w' := (g, d, ck - 1 - 1 - 1 - 1 - 1 - 1 - 1 - 1 - 1 - 1 - 1 - 1 - 1 - 1 - 1 - 1 - 1 - 1 - 1 - 1 - 1 - 1 - 1 - 1 - 1 - 1 - 1, sk - 240 - 2600 - 2600 - 5 - 5 - 700 - 700 - 700 - 6 - 80 - 4 - 8 - 4 - 8 - 336 - 7 - 28 - 943 - 5 - 37720 - 6 - 762 - 275 - 17 - 17 - 10 - 10, xX12_init, Q)) (N := 10) dX12_init_230 (by decide) qr_int rfl (s_putaF (ci := 12) (j := 43) (C := RX12) (T := TX12) (N := 49) dX12_init_232 rfl (by decide) (by decide) rfl rfl rfl (Or.inr ⟨_, rfl⟩) (tyX12_ok 43 (by decide)) qf_X12_96 (s_aload_n dX12_init_235 rfl (s_bipush dX12_init_236 rfl (s_newZ (w' := (g, d, ck - 1 - 1 - 1 - 1 - 1 - 1 - 1 - 1 - 1 - 1 - 1 - 1 - 1 - 1 - 1 - 1 - 1 - 1 - 1 - 1 - 1 - 1 - 1 - 1 - 1 - 1 - 1 - 1, sk - 240 - 2600 - 2600 - 5 - 5 - 700 - 700 - 700 - 6 - 80 - 4 - 8 - 4 - 8 - 336 - 7 - 28 - 943 - 5 - 37720 - 6 - 762 - 275 - 17 - 17 - 10 - 10 - 10, xX12_init, Q)) (N := 10) dX12_init_238 (by decide) qr_boolean rfl (s_putaF (ci := 12) (j := 44) (C := RX12) (T := TX12) (N := 49) dX12_init_240 rfl (by decide) (by decide) rfl rfl rfl (Or.inr ⟨_, rfl⟩) (tyX12_ok 44 (by decide)) qf_X12_99 (s_aload_n dX12_init_243 rfl (s_sipush dX12_init_244 rfl (s_newI (w' := (g, d, ck - 1 - 1 - 1 - 1 - 1 - 1 - 1 - 1 - 1 - 1 - 1 - 1 - 1 - 1 - 1 - 1 - 1 - 1 - 1 - 1 - 1 - 1 - 1 - 1 - 1 - 1 - 1 - 1 - 1, sk - 240 - 2600 - 2600 - 5 - 5 - 700 - 700 - 700 - 6 - 80 - 4 - 8 - 4 - 8 - 336 - 7 - 28 - 943 - 5 - 37720 - 6 - 762 - 275 - 17 - 17 - 10 - 10 - 10 - 1080, xX12_init, Q)) (N := 1080) dX12_init_247 (by decide) qr_int rfl (s_putaF (ci := 12) (j := 46) (C := RX12) (T := TX12) (N := 49) dX12_init_249 rfl (by decide) (by decide) rfl rfl rfl (Or.inr ⟨_, rfl⟩) (tyX12_ok 46 (by decide)) qf_X12_103 (s_aload_n dX12_init_252 rfl (s_sipush dX12_init_253 rfl (s_newI (w' := (g, d, ck - 1 - 1 - 1 - 1 - 1 - 1 - 1 - 1 - 1 - 1 - 1 - 1 - 1 - 1 - 1 - 1 - 1 - 1 - 1 - 1 - 1 - 1 - 1 - 1 - 1 - 1 - 1 - 1 - 1 - 1, sk - 240 - 2600 - 2600 - 5 - 5 - 700 - 700 - 700 - 6 - 80 - 4 - 8 - 4 - 8 - 336 - 7 - 28 - 943 - 5 - 37720 - 6 - 762 - 275 - 17 - 17 - 10 - 10 - 10 - 1080 - 943, xX12_init, Q)) (N := 943) dX12_init_256 (by decide) qr_int rfl (s_putaF (ci := 12) (j := 47) (C := RX12) (T := TX12) (N := 49) dX12_init_258 rfl (by decide) (by decide) rfl rfl rfl (Or.inr ⟨_, rfl⟩) (tyX12_ok 47 (by decide)) qf_X12_106 (s_ret dX12_init_261 rfl))))))))))))))))))))))))))))))))))))))))))))))))))))))))))))))))))))))))))))))))))))))))))))))))))))))))))))))))))))))))))))))))
theorem dX12_thrown_0 : decode cX12_thrown 0 = .ok (.aload_n 0, 1) := by decide +kernel
theorem dX12_thrown_1 : decode cX12_thrown 1 = .ok (.getfield 109, 3) := by decide +kernel
theorem dX12_thrown_4 : decode cX12_thrown 4 = .ok (.ireturn, 1) := by decide +kernel
def kX12_thrown_0 (g : sk_G) (d ck sk : Nat) (Q : sk_P) : sk_K := o_aload 0 (o_getf 12 0 (o_iret (g, d, ck, sk, xX12_thrown, Q)))
theorem tX12_thrown_0 {g : sk_G} {d ck sk : Nat} {Q : sk_P} : sk_S (g, d, ck, sk, xX12_thrown, Q) 0 (kX12_thrown_0 g d ck sk Q) := s_aload_n dX12_thrown_0 rfl (s_getf (ci := 12) (j := 0) (C := RX12) (T := TX12) (N := 49) dX12_thrown_1 rfl (by decide) (by decide) qf_X12_109 (s_iret dX12_thrown_4 rfl))
theorem dX12_feed_0 : decode cX12_feed 0 = .ok (.iconst 0, 1) := by decide +kernel
theorem dX12_feed_1 : decode cX12_feed 1 = .ok (.istore 6, 2) := by decide +kernel
theorem dX12_feed_3 : decode cX12_feed 3 = .ok (.iconst 0, 1) := by decide +kernel
theorem dX12_feed_4 : decode cX12_feed 4 = .ok (.istore 7, 2) := by decide +kernel
theorem dX12_feed_6 : decode cX12_feed 6 = .ok (.iload 7, 2) := by decide +kernel
theorem dX12_feed_8 : decode cX12_feed 8 = .ok (.bipush 20, 2) := by decide +kernel
theorem dX12_feed_10 : decode cX12_feed 10 = .ok (.if_icmp .ge 34, 3) := by decide +kernel
theorem dX12_feed_13 : decode cX12_feed 13 = .ok (.iload 6, 2) := by decide +kernel
theorem dX12_feed_15 : decode cX12_feed 15 = .ok (.iload_n 1, 1) := by decide +kernel
theorem dX12_feed_16 : decode cX12_feed 16 = .ok (.iload_n 2, 1) := by decide +kernel
theorem dX12_feed_17 : decode cX12_feed 17 = .ok (.iload_n 3, 1) := by decide +kernel
theorem dX12_feed_18 : decode cX12_feed 18 = .ok (.iload 4, 2) := by decide +kernel
theorem dX12_feed_20 : decode cX12_feed 20 = .ok (.iload 5, 2) := by decide +kernel
theorem dX12_feed_22 : decode cX12_feed 22 = .ok (.iload 7, 2) := by decide +kernel
theorem dX12_feed_24 : decode cX12_feed 24 = .ok (.invokestatic 112, 3) := by decide +kernel
theorem dX12_feed_27 : decode cX12_feed 27 = .ok (.ifCond .eq 7, 3) := by decide +kernel
theorem dX12_feed_30 : decode cX12_feed 30 = .ok (.iconst 1, 1) := by decide +kernel
theorem dX12_feed_31 : decode cX12_feed 31 = .ok (.goto 4, 3) := by decide +kernel
theorem dX12_feed_34 : decode cX12_feed 34 = .ok (.iconst 0, 1) := by decide +kernel
theorem dX12_feed_35 : decode cX12_feed 35 = .ok (.iadd, 1) := by decide +kernel
theorem dX12_feed_36 : decode cX12_feed 36 = .ok (.istore 6, 2) := by decide +kernel
theorem dX12_feed_38 : decode cX12_feed 38 = .ok (.iinc 7 1, 3) := by decide +kernel
theorem dX12_feed_41 : decode cX12_feed 41 = .ok (.goto (-35), 3) := by decide +kernel
theorem dX12_feed_44 : decode cX12_feed 44 = .ok (.aload_n 0, 1) := by decide +kernel
theorem dX12_feed_45 : decode cX12_feed 45 = .ok (.getfield 116, 3) := by decide +kernel
theorem dX12_feed_48 : decode cX12_feed 48 = .ok (.iload 6, 2) := by decide +kernel
theorem dX12_feed_50 : decode cX12_feed 50 = .ok (.iadd, 1) := by decide +kernel
theorem dX12_feed_51 : decode cX12_feed 51 = .ok (.sipush 240, 3) := by decide +kernel
theorem dX12_feed_54 : decode cX12_feed 54 = .ok (.if_icmp .le 5, 3) := by decide +kernel
theorem dX12_feed_57 : decode cX12_feed 57 = .ok (.iconst (-1), 1) := by decide +kernel
theorem dX12_feed_58 : decode cX12_feed 58 = .ok (.ireturn, 1) := by decide +kernel
theorem dX12_feed_59 : decode cX12_feed 59 = .ok (.iconst 0, 1) := by decide +kernel
theorem dX12_feed_60 : decode cX12_feed 60 = .ok (.istore 7, 2) := by decide +kernel
theorem dX12_feed_62 : decode cX12_feed 62 = .ok (.iload 7, 2) := by decide +kernel
theorem dX12_feed_64 : decode cX12_feed 64 = .ok (.bipush 20, 2) := by decide +kernel
theorem dX12_feed_66 : decode cX12_feed 66 = .ok (.if_icmp .ge 49, 3) := by decide +kernel
theorem dX12_feed_69 : decode cX12_feed 69 = .ok (.iload_n 1, 1) := by decide +kernel
theorem dX12_feed_70 : decode cX12_feed 70 = .ok (.iload_n 2, 1) := by decide +kernel
theorem dX12_feed_71 : decode cX12_feed 71 = .ok (.iload_n 3, 1) := by decide +kernel
theorem dX12_feed_72 : decode cX12_feed 72 = .ok (.iload 4, 2) := by decide +kernel
theorem dX12_feed_74 : decode cX12_feed 74 = .ok (.iload 5, 2) := by decide +kernel
theorem dX12_feed_76 : decode cX12_feed 76 = .ok (.iload 7, 2) := by decide +kernel
theorem dX12_feed_78 : decode cX12_feed 78 = .ok (.invokestatic 112, 3) := by decide +kernel
theorem dX12_feed_81 : decode cX12_feed 81 = .ok (.istore 8, 2) := by decide +kernel
theorem dX12_feed_83 : decode cX12_feed 83 = .ok (.iload 8, 2) := by decide +kernel
theorem dX12_feed_85 : decode cX12_feed 85 = .ok (.ifCond .eq 24, 3) := by decide +kernel
theorem dX12_feed_88 : decode cX12_feed 88 = .ok (.aload_n 0, 1) := by decide +kernel
theorem dX12_feed_89 : decode cX12_feed 89 = .ok (.getfield 9, 3) := by decide +kernel
theorem dX12_feed_92 : decode cX12_feed 92 = .ok (.aload_n 0, 1) := by decide +kernel
theorem dX12_feed_93 : decode cX12_feed 93 = .ok (.getfield 116, 3) := by decide +kernel
theorem dX12_feed_96 : decode cX12_feed 96 = .ok (.iload 8, 2) := by decide +kernel
theorem dX12_feed_98 : decode cX12_feed 98 = .ok (.iastore, 1) := by decide +kernel
theorem dX12_feed_99 : decode cX12_feed 99 = .ok (.aload_n 0, 1) := by decide +kernel
theorem dX12_feed_100 : decode cX12_feed 100 = .ok (.dup, 1) := by decide +kernel
theorem dX12_feed_101 : decode cX12_feed 101 = .ok (.getfield 116, 3) := by decide +kernel
theorem dX12_feed_104 : decode cX12_feed 104 = .ok (.iconst 1, 1) := by decide +kernel
theorem dX12_feed_105 : decode cX12_feed 105 = .ok (.iadd, 1) := by decide +kernel
theorem dX12_feed_106 : decode cX12_feed 106 = .ok (.putfield 116, 3) := by decide +kernel
theorem dX12_feed_109 : decode cX12_feed 109 = .ok (.iinc 7 1, 3) := by decide +kernel
theorem dX12_feed_112 : decode cX12_feed 112 = .ok (.goto (-50), 3) := by decide +kernel
theorem dX12_feed_115 : decode cX12_feed 115 = .ok (.aload_n 0, 1) := by decide +kernel
theorem dX12_feed_116 : decode cX12_feed 116 = .ok (.getfield 116, 3) := by decide +kernel
theorem dX12_feed_119 : decode cX12_feed 119 = .ok (.ireturn, 1) := by decide +kernel
def kX12_feed_0 (g : sk_G) (d ck sk : Nat) (Q : sk_P) : sk_K := o_i (0) (o_istore 6 (o_i (0) (o_istore 7 (sk_B (g, d, ck, sk, xX12_feed, Q) 6))))
theorem tX12_feed_0 {g : sk_G} {d ck sk : Nat} {Q : sk_P} : sk_S (g, d, ck, sk, xX12_feed, Q) 0 (kX12_feed_0 g d ck sk Q) := s_iconst dX12_feed_0 (s_istore dX12_feed_1 (by decide : 6 < 9) (s_iconst dX12_feed_3 (s_istore dX12_feed_4 (by decide : 7 < 9) (sk_id))))
set_option maxRecDepth 20000 in
def kX12_feed_6 (g : sk_G) (d ck sk : Nat) (Q : sk_P) : sk_K := o_iload 7 (o_i (20) (o_icge (o_aload 0 (o_getf 12 2 (o_iload 6 (o_iadd (o_i (240) (o_icle (o_i (0) (o_istore 7 (sk_B (g, d, ck, sk, xX12_feed, Q) 62))) (o_i (-1) (o_iret (g, d, ck, sk, xX12_feed, Q))))))))) (o_iload 6 (o_iload 1 (o_iload 2 (o_iload 3 (o_iload 4 (o_iload 5 (o_iload 7 (o_stcB (g, d, ck, sk, xX12_feed, Q) xX12_byteOf 6 0 0 (o_ifeq (o_i (0) (o_iadd (o_istore 6 (o_iinc 7 (1) (sk_B (g, d, ck, sk, xX12_feed, Q) 6))))) (o_i (1) (o_iadd (o_istore 6 (o_iinc 7 (1) (sk_B (g, d, ck, sk, xX12_feed, Q) 6))))))))))))))))
set_option maxRecDepth 20000 in
theorem tX12_feed_6 {g : sk_G} {d ck sk : Nat} {Q : sk_P} : sk_S (g, d, ck, sk, xX12_feed, Q) 6 (kX12_feed_6 g d ck sk Q) := s_iload dX12_feed_6 (s_bipush dX12_feed_8 rfl (s_icge (tgt := 44) dX12_feed_10 (by decide) (s_aload_n dX12_feed_44 rfl (s_getf (ci := 12) (j := 2) (C := RX12) (T := TX12) (N := 49) dX12_feed_45 rfl (by decide) (by decide) qf_X12_116 (s_iload dX12_feed_48 (s_iadd dX12_feed_50 (s_sipush dX12_feed_51 rfl (s_icle (tgt := 59) dX12_feed_54 (by decide) (s_iconst dX12_feed_59 (s_istore dX12_feed_60 (by decide : 7 < 9) (sk_id))) (s_iconst dX12_feed_57 (s_iret dX12_feed_58 rfl)))))))) (s_iload dX12_feed_13 (s_iload_n dX12_feed_15 rfl (s_iload_n dX12_feed_16 rfl (s_iload_n dX12_feed_17 rfl (s_iload dX12_feed_18 (s_iload dX12_feed_20 (s_iload dX12_feed_22 (s_stcB (w' := (g, d, ck, sk, xX12_feed, Q)) (ck := 0) (sk := 0) dX12_feed_24 m_X12_byteOf qm_X12_112 qs_X12_byteOf rfl (s_ifeq (tgt := 34) dX12_feed_27 (by decide) (s_iconst dX12_feed_34 (s_iadd dX12_feed_35 (s_istore dX12_feed_36 (by decide : 6 < 9) (s_iinc dX12_feed_38 (by decide : 7 < 9) (s_goto (tgt := 6) dX12_feed_41 (by decide) (sk_id)))))) (s_iconst dX12_feed_30 (s_goto (tgt := 35) dX12_feed_31 (by decide) (s_iadd dX12_feed_35 (s_istore dX12_feed_36 (by decide : 6 < 9) (s_iinc dX12_feed_38 (by decide : 7 < 9) (s_goto (tgt := 6) dX12_feed_41 (by decide) (sk_id))))))))))))))))))
set_option maxRecDepth 20000 in
def kX12_feed_62 (g : sk_G) (d ck sk : Nat) (Q : sk_P) : sk_K := o_iload 7 (o_i (20) (o_icge (o_aload 0 (o_getf 12 2 (o_iret (g, d, ck, sk, xX12_feed, Q)))) (o_iload 1 (o_iload 2 (o_iload 3 (o_iload 4 (o_iload 5 (o_iload 7 (o_stcB (g, d, ck, sk, xX12_feed, Q) xX12_byteOf 6 0 0 (o_istore 8 (o_iload 8 (o_ifeq (o_iinc 7 (1) (sk_B (g, d, ck, sk, xX12_feed, Q) 62)) (o_aload 0 (o_getf 12 1 (o_aload 0 (o_getf 12 2 (o_iload 8 (o_iastore (o_aload 0 (o_dup (o_getf 12 2 (o_i (1) (o_iadd (o_puti 12 2 (o_iinc 7 (1) (sk_B (g, d, ck, sk, xX12_feed, Q) 62))))))))))))))))))))))))))
set_option maxRecDepth 20000 in
theorem tX12_feed_62 {g : sk_G} {d ck sk : Nat} {Q : sk_P} : sk_S (g, d, ck, sk, xX12_feed, Q) 62 (kX12_feed_62 g d ck sk Q) := s_iload dX12_feed_62 (s_bipush dX12_feed_64 rfl (s_icge (tgt := 115) dX12_feed_66 (by decide) (s_aload_n dX12_feed_115 rfl (s_getf (ci := 12) (j := 2) (C := RX12) (T := TX12) (N := 49) dX12_feed_116 rfl (by decide) (by decide) qf_X12_116 (s_iret dX12_feed_119 rfl))) (s_iload_n dX12_feed_69 rfl (s_iload_n dX12_feed_70 rfl (s_iload_n dX12_feed_71 rfl (s_iload dX12_feed_72 (s_iload dX12_feed_74 (s_iload dX12_feed_76 (s_stcB (w' := (g, d, ck, sk, xX12_feed, Q)) (ck := 0) (sk := 0) dX12_feed_78 m_X12_byteOf qm_X12_112 qs_X12_byteOf rfl (s_istore dX12_feed_81 (by decide : 8 < 9) (s_iload dX12_feed_83 (s_ifeq (tgt := 109) dX12_feed_85 (by decide) (s_iinc dX12_feed_109 (by decide : 7 < 9) (s_goto (tgt := 62) dX12_feed_112 (by decide) (sk_id))) (s_aload_n dX12_feed_88 rfl (s_getf (ci := 12) (j := 1) (C := RX12) (T := TX12) (N := 49) dX12_feed_89 rfl (by decide) (by decide) qf_X12_9 (s_aload_n dX12_feed_92 rfl (s_getf (ci := 12) (j := 2) (C := RX12) (T := TX12) (N := 49) dX12_feed_93 rfl (by decide) (by decide) qf_X12_116 (s_iload dX12_feed_96 (s_iastore dX12_feed_98 (s_aload_n dX12_feed_99 rfl (s_dup dX12_feed_100 (s_getf (ci := 12) (j := 2) (C := RX12) (T := TX12) (N := 49) dX12_feed_101 rfl (by decide) (by decide) qf_X12_116 (s_iconst dX12_feed_104 (s_iadd dX12_feed_105 (s_puti (ci := 12) (j := 2) (C := RX12) (T := TX12) (N := 49) dX12_feed_106 rfl (by decide) (by decide) rfl (tyX12_ok 2 (by decide)) qf_X12_116 (s_iinc dX12_feed_109 (by decide : 7 < 9) (s_goto (tgt := 62) dX12_feed_112 (by decide) (sk_id)))))))))))))))))))))))))))
theorem dX12_byteOf_0 : decode cX12_byteOf 0 = .ok (.iload 5, 2) := by decide +kernel
theorem dX12_byteOf_2 : decode cX12_byteOf 2 = .ok (.iconst 4, 1) := by decide +kernel
theorem dX12_byteOf_3 : decode cX12_byteOf 3 = .ok (.if_icmp .ge 7, 3) := by decide +kernel
theorem dX12_byteOf_6 : decode cX12_byteOf 6 = .ok (.iload_n 0, 1) := by decide +kernel
theorem dX12_byteOf_7 : decode cX12_byteOf 7 = .ok (.goto 38, 3) := by decide +kernel
theorem dX12_byteOf_10 : decode cX12_byteOf 10 = .ok (.iload 5, 2) := by decide +kernel
theorem dX12_byteOf_12 : decode cX12_byteOf 12 = .ok (.bipush 8, 2) := by decide +kernel
theorem dX12_byteOf_14 : decode cX12_byteOf 14 = .ok (.if_icmp .ge 7, 3) := by decide +kernel
theorem dX12_byteOf_17 : decode cX12_byteOf 17 = .ok (.iload_n 1, 1) := by decide +kernel
theorem dX12_byteOf_18 : decode cX12_byteOf 18 = .ok (.goto 27, 3) := by decide +kernel
theorem dX12_byteOf_21 : decode cX12_byteOf 21 = .ok (.iload 5, 2) := by decide +kernel
theorem dX12_byteOf_23 : decode cX12_byteOf 23 = .ok (.bipush 12, 2) := by decide +kernel
theorem dX12_byteOf_25 : decode cX12_byteOf 25 = .ok (.if_icmp .ge 7, 3) := by decide +kernel
theorem dX12_byteOf_28 : decode cX12_byteOf 28 = .ok (.iload_n 2, 1) := by decide +kernel
theorem dX12_byteOf_29 : decode cX12_byteOf 29 = .ok (.goto 16, 3) := by decide +kernel
theorem dX12_byteOf_32 : decode cX12_byteOf 32 = .ok (.iload 5, 2) := by decide +kernel
theorem dX12_byteOf_34 : decode cX12_byteOf 34 = .ok (.bipush 16, 2) := by decide +kernel
theorem dX12_byteOf_36 : decode cX12_byteOf 36 = .ok (.if_icmp .ge 7, 3) := by decide +kernel
theorem dX12_byteOf_39 : decode cX12_byteOf 39 = .ok (.iload_n 3, 1) := by decide +kernel
theorem dX12_byteOf_40 : decode cX12_byteOf 40 = .ok (.goto 5, 3) := by decide +kernel
theorem dX12_byteOf_43 : decode cX12_byteOf 43 = .ok (.iload 4, 2) := by decide +kernel
theorem dX12_byteOf_45 : decode cX12_byteOf 45 = .ok (.istore 6, 2) := by decide +kernel
theorem dX12_byteOf_47 : decode cX12_byteOf 47 = .ok (.iload 6, 2) := by decide +kernel
theorem dX12_byteOf_49 : decode cX12_byteOf 49 = .ok (.bipush 24, 2) := by decide +kernel
theorem dX12_byteOf_51 : decode cX12_byteOf 51 = .ok (.bipush 8, 2) := by decide +kernel
theorem dX12_byteOf_53 : decode cX12_byteOf 53 = .ok (.iload 5, 2) := by decide +kernel
theorem dX12_byteOf_55 : decode cX12_byteOf 55 = .ok (.iconst 4, 1) := by decide +kernel
theorem dX12_byteOf_56 : decode cX12_byteOf 56 = .ok (.irem, 1) := by decide +kernel
theorem dX12_byteOf_57 : decode cX12_byteOf 57 = .ok (.imul, 1) := by decide +kernel
theorem dX12_byteOf_58 : decode cX12_byteOf 58 = .ok (.isub, 1) := by decide +kernel
theorem dX12_byteOf_59 : decode cX12_byteOf 59 = .ok (.ishr, 1) := by decide +kernel
theorem dX12_byteOf_60 : decode cX12_byteOf 60 = .ok (.sipush 255, 3) := by decide +kernel
theorem dX12_byteOf_63 : decode cX12_byteOf 63 = .ok (.iand, 1) := by decide +kernel
theorem dX12_byteOf_64 : decode cX12_byteOf 64 = .ok (.ireturn, 1) := by decide +kernel
set_option maxRecDepth 20000 in
def kX12_byteOf_0 (g : sk_G) (d ck sk : Nat) (Q : sk_P) : sk_K := o_iload 5 (o_i (4) (o_icge (o_iload 5 (o_i (8) (o_icge (o_iload 5 (o_i (12) (o_icge (o_iload 5 (o_i (16) (o_icge (o_iload 4 (sk_B (g, d, ck, sk, xX12_byteOf, Q) 45)) (o_iload 3 (sk_B (g, d, ck, sk, xX12_byteOf, Q) 45))))) (o_iload 2 (sk_B (g, d, ck, sk, xX12_byteOf, Q) 45))))) (o_iload 1 (sk_B (g, d, ck, sk, xX12_byteOf, Q) 45))))) (o_iload 0 (sk_B (g, d, ck, sk, xX12_byteOf, Q) 45))))
set_option maxRecDepth 20000 in
theorem tX12_byteOf_0 {g : sk_G} {d ck sk : Nat} {Q : sk_P} : sk_S (g, d, ck, sk, xX12_byteOf, Q) 0 (kX12_byteOf_0 g d ck sk Q) := s_iload dX12_byteOf_0 (s_iconst dX12_byteOf_2 (s_icge (tgt := 10) dX12_byteOf_3 (by decide) (s_iload dX12_byteOf_10 (s_bipush dX12_byteOf_12 rfl (s_icge (tgt := 21) dX12_byteOf_14 (by decide) (s_iload dX12_byteOf_21 (s_bipush dX12_byteOf_23 rfl (s_icge (tgt := 32) dX12_byteOf_25 (by decide) (s_iload dX12_byteOf_32 (s_bipush dX12_byteOf_34 rfl (s_icge (tgt := 43) dX12_byteOf_36 (by decide) (s_iload dX12_byteOf_43 (sk_id)) (s_iload_n dX12_byteOf_39 rfl (s_goto (tgt := 45) dX12_byteOf_40 (by decide) (sk_id)))))) (s_iload_n dX12_byteOf_28 rfl (s_goto (tgt := 45) dX12_byteOf_29 (by decide) (sk_id)))))) (s_iload_n dX12_byteOf_17 rfl (s_goto (tgt := 45) dX12_byteOf_18 (by decide) (sk_id)))))) (s_iload_n dX12_byteOf_6 rfl (s_goto (tgt := 45) dX12_byteOf_7 (by decide) (sk_id)))))
def kX12_byteOf_45 (g : sk_G) (d ck sk : Nat) (Q : sk_P) : sk_K := o_istore 6 (o_iload 6 (o_i (24) (o_i (8) (o_iload 5 (o_i (4) (o_irem (o_imul (o_isub (o_ishr (o_i (255) (o_iand (o_iret (g, d, ck, sk, xX12_byteOf, Q)))))))))))))
theorem tX12_byteOf_45 {g : sk_G} {d ck sk : Nat} {Q : sk_P} : sk_S (g, d, ck, sk, xX12_byteOf, Q) 45 (kX12_byteOf_45 g d ck sk Q) := s_istore dX12_byteOf_45 (by decide : 6 < 7) (s_iload dX12_byteOf_47 (s_bipush dX12_byteOf_49 rfl (s_bipush dX12_byteOf_51 rfl (s_iload dX12_byteOf_53 (s_iconst dX12_byteOf_55 (s_irem dX12_byteOf_56 (s_imul dX12_byteOf_57 (s_isub dX12_byteOf_58 (s_ishr dX12_byteOf_59 (s_sipush dX12_byteOf_60 rfl (s_iand dX12_byteOf_63 (s_iret dX12_byteOf_64 rfl))))))))))))
theorem dX12_end_0 : decode cX12_end 0 = .ok (.iload_n 1, 1) := by decide +kernel
theorem dX12_end_1 : decode cX12_end 1 = .ok (.ifCond .lt 11, 3) := by decide +kernel
theorem dX12_end_4 : decode cX12_end 4 = .ok (.iload_n 1, 1) := by decide +kernel
theorem dX12_end_5 : decode cX12_end 5 = .ok (.aload_n 0, 1) := by decide +kernel
theorem dX12_end_6 : decode cX12_end 6 = .ok (.getfield 116, 3) := by decide +kernel
theorem dX12_end_9 : decode cX12_end 9 = .ok (.if_icmp .le 5, 3) := by decide +kernel
theorem dX12_end_12 : decode cX12_end 12 = .ok (.iconst 0, 1) := by decide +kernel
theorem dX12_end_13 : decode cX12_end 13 = .ok (.ireturn, 1) := by decide +kernel
theorem dX12_end_14 : decode cX12_end 14 = .ok (.aload_n 0, 1) := by decide +kernel
theorem dX12_end_15 : decode cX12_end 15 = .ok (.iload_n 1, 1) := by decide +kernel
theorem dX12_end_16 : decode cX12_end 16 = .ok (.putfield 116, 3) := by decide +kernel
theorem dX12_end_19 : decode cX12_end 19 = .ok (.iconst 1, 1) := by decide +kernel
theorem dX12_end_20 : decode cX12_end 20 = .ok (.ireturn, 1) := by decide +kernel
def kX12_end_0 (g : sk_G) (d ck sk : Nat) (Q : sk_P) : sk_K := o_iload 1 (o_iflt (o_i (0) (o_zret (g, d, ck, sk, xX12_end, Q))) (o_iload 1 (o_aload 0 (o_getf 12 2 (o_icle (o_aload 0 (o_iload 1 (o_puti 12 2 (o_i (1) (o_zret (g, d, ck, sk, xX12_end, Q)))))) (o_i (0) (o_zret (g, d, ck, sk, xX12_end, Q))))))))
theorem tX12_end_0 {g : sk_G} {d ck sk : Nat} {Q : sk_P} : sk_S (g, d, ck, sk, xX12_end, Q) 0 (kX12_end_0 g d ck sk Q) := s_iload_n dX12_end_0 rfl (s_iflt (tgt := 12) dX12_end_1 (by decide) (s_iconst dX12_end_12 (s_zret dX12_end_13 rfl)) (s_iload_n dX12_end_4 rfl (s_aload_n dX12_end_5 rfl (s_getf (ci := 12) (j := 2) (C := RX12) (T := TX12) (N := 49) dX12_end_6 rfl (by decide) (by decide) qf_X12_116 (s_icle (tgt := 14) dX12_end_9 (by decide) (s_aload_n dX12_end_14 rfl (s_iload_n dX12_end_15 rfl (s_puti (ci := 12) (j := 2) (C := RX12) (T := TX12) (N := 49) dX12_end_16 rfl (by decide) (by decide) rfl (tyX12_ok 2 (by decide)) qf_X12_116 (s_iconst dX12_end_19 (s_zret dX12_end_20 rfl))))) (s_iconst dX12_end_12 (s_zret dX12_end_13 rfl)))))))
theorem dX12_fault_0 : decode cX12_fault 0 = .ok (.iload_n 1, 1) := by decide +kernel
theorem dX12_fault_1 : decode cX12_fault 1 = .ok (.ifCond .ne 10, 3) := by decide +kernel
theorem dX12_fault_4 : decode cX12_fault 4 = .ok (.aload_n 0, 1) := by decide +kernel
theorem dX12_fault_5 : decode cX12_fault 5 = .ok (.invokevirtual 261, 3) := by decide +kernel
theorem dX12_fault_8 : decode cX12_fault 8 = .ok (.goto 32, 3) := by decide +kernel
theorem dX12_fault_11 : decode cX12_fault 11 = .ok (.iload_n 1, 1) := by decide +kernel
theorem dX12_fault_12 : decode cX12_fault 12 = .ok (.iconst 1, 1) := by decide +kernel
theorem dX12_fault_13 : decode cX12_fault 13 = .ok (.if_icmp .ne 11, 3) := by decide +kernel
theorem dX12_fault_16 : decode cX12_fault 16 = .ok (.aload_n 0, 1) := by decide +kernel
theorem dX12_fault_17 : decode cX12_fault 17 = .ok (.iconst 4, 1) := by decide +kernel
theorem dX12_fault_18 : decode cX12_fault 18 = .ok (.invokevirtual 264, 3) := by decide +kernel
theorem dX12_fault_21 : decode cX12_fault 21 = .ok (.goto 19, 3) := by decide +kernel
theorem dX12_fault_24 : decode cX12_fault 24 = .ok (.iload_n 1, 1) := by decide +kernel
theorem dX12_fault_25 : decode cX12_fault 25 = .ok (.iconst 2, 1) := by decide +kernel
theorem dX12_fault_26 : decode cX12_fault 26 = .ok (.if_icmp .ne 12, 3) := by decide +kernel
theorem dX12_fault_29 : decode cX12_fault 29 = .ok (.aload_n 0, 1) := by decide +kernel
theorem dX12_fault_30 : decode cX12_fault 30 = .ok (.bipush 6, 2) := by decide +kernel
theorem dX12_fault_32 : decode cX12_fault 32 = .ok (.invokevirtual 267, 3) := by decide +kernel
theorem dX12_fault_35 : decode cX12_fault 35 = .ok (.goto 5, 3) := by decide +kernel
theorem dX12_fault_38 : decode cX12_fault 38 = .ok (.bipush (-2), 2) := by decide +kernel
theorem dX12_fault_40 : decode cX12_fault 40 = .ok (.ireturn, 1) := by decide +kernel
set_option maxRecDepth 20000 in
def kX12_fault_0 (g : sk_G) (d ck sk : Nat) (Q : sk_P) : sk_K := o_iload 1 (o_ifne (o_iload 1 (o_i (1) (o_icne (o_iload 1 (o_i (2) (o_icne (o_i (-2) (o_iret (g, d, ck, sk, xX12_fault, Q))) (o_aload 0 (o_i (6) (o_invB (g, d, ck, sk, xX12_fault, Q) xX12_readWriting 1 12 0 0 (o_iret (g, d, ck, sk, xX12_fault, Q)))))))) (o_aload 0 (o_i (4) (o_invB (g, d, ck, sk, xX12_fault, Q) xX12_readLaw 1 12 0 0 (o_iret (g, d, ck, sk, xX12_fault, Q)))))))) (o_aload 0 (o_invB (g, d, ck, sk, xX12_fault, Q) xX12_readSkin 0 12 0 0 (o_iret (g, d, ck, sk, xX12_fault, Q)))))
set_option maxRecDepth 20000 in
theorem tX12_fault_0 {g : sk_G} {d ck sk : Nat} {Q : sk_P} : sk_S (g, d, ck, sk, xX12_fault, Q) 0 (kX12_fault_0 g d ck sk Q) := s_iload_n dX12_fault_0 rfl (s_ifne (tgt := 11) dX12_fault_1 (by decide) (s_iload_n dX12_fault_11 rfl (s_iconst dX12_fault_12 (s_icne (tgt := 24) dX12_fault_13 (by decide) (s_iload_n dX12_fault_24 rfl (s_iconst dX12_fault_25 (s_icne (tgt := 38) dX12_fault_26 (by decide) (s_bipush dX12_fault_38 rfl (s_iret dX12_fault_40 rfl)) (s_aload_n dX12_fault_29 rfl (s_bipush dX12_fault_30 rfl (s_invB (w' := (g, d, ck, sk, xX12_fault, Q)) (ci := 12) (ck := 0) (sk := 0) (T := TX12) (N := 49) dX12_fault_32 m_X12_readWriting rfl (by decide) qm_X12_267 qi_X12_readWriting qe_X12_readWriting rfl (s_goto (tgt := 40) dX12_fault_35 (by decide) (s_iret dX12_fault_40 rfl)))))))) (s_aload_n dX12_fault_16 rfl (s_iconst dX12_fault_17 (s_invB (w' := (g, d, ck, sk, xX12_fault, Q)) (ci := 12) (ck := 0) (sk := 0) (T := TX12) (N := 49) dX12_fault_18 m_X12_readLaw rfl (by decide) qm_X12_264 qi_X12_readLaw qe_X12_readLaw rfl (s_goto (tgt := 40) dX12_fault_21 (by decide) (s_iret dX12_fault_40 rfl)))))))) (s_aload_n dX12_fault_4 rfl (s_invB (w' := (g, d, ck, sk, xX12_fault, Q)) (ci := 12) (ck := 0) (sk := 0) (T := TX12) (N := 49) dX12_fault_5 m_X12_readSkin rfl (by decide) qm_X12_261 qi_X12_readSkin qe_X12_readSkin rfl (s_goto (tgt := 40) dX12_fault_8 (by decide) (s_iret dX12_fault_40 rfl)))))
