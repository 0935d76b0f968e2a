theorem dX7_coinsAtFirst_0 : decode cX7_coinsAtFirst 0 = .ok (.aload_n 0, 1) := by decide +kernel
theorem dX7_coinsAtFirst_1 : decode cX7_coinsAtFirst 1 = .ok (.getfield 9, 3) := by decide +kernel
theorem dX7_coinsAtFirst_4 : decode cX7_coinsAtFirst 4 = .ok (.iconst 3, 1) := by decide +kernel
theorem dX7_coinsAtFirst_5 : decode cX7_coinsAtFirst 5 = .ok (.iaload, 1) := by decide +kernel
theorem dX7_coinsAtFirst_6 : decode cX7_coinsAtFirst 6 = .ok (.ireturn, 1) := by decide +kernel
def kX7_coinsAtFirst_0 (g : sk_G) (d ck sk : Nat) (Q : sk_P) : sk_K := o_aload 0 (o_getf 7 0 (o_i (3) (o_iaload (o_iret (g, d, ck, sk, xX7_coinsAtFirst, Q)))))
theorem tX7_coinsAtFirst_0 {g : sk_G} {d ck sk : Nat} {Q : sk_P} : sk_S (g, d, ck, sk, xX7_coinsAtFirst, Q) 0 (kX7_coinsAtFirst_0 g d ck sk Q) := s_aload_n dX7_coinsAtFirst_0 rfl (s_getf (ci := 7) (j := 0) (C := RX7) (T := TX7) (N := 4) dX7_coinsAtFirst_1 rfl (by decide) (by decide) qf_X7_9 (s_iconst dX7_coinsAtFirst_4 (s_iaload dX7_coinsAtFirst_5 (s_iret dX7_coinsAtFirst_6 rfl))))
theorem dX7_wide_0 : decode cX7_wide 0 = .ok (.aload_n 0, 1) := by decide +kernel
theorem dX7_wide_1 : decode cX7_wide 1 = .ok (.getfield 9, 3) := by decide +kernel
theorem dX7_wide_4 : decode cX7_wide 4 = .ok (.iconst 0, 1) := by decide +kernel
theorem dX7_wide_5 : decode cX7_wide 5 = .ok (.iaload, 1) := by decide +kernel
theorem dX7_wide_6 : decode cX7_wide 6 = .ok (.ireturn, 1) := by decide +kernel
def kX7_wide_0 (g : sk_G) (d ck sk : Nat) (Q : sk_P) : sk_K := o_aload 0 (o_getf 7 0 (o_i (0) (o_iaload (o_iret (g, d, ck, sk, xX7_wide, Q)))))
theorem tX7_wide_0 {g : sk_G} {d ck sk : Nat} {Q : sk_P} : sk_S (g, d, ck, sk, xX7_wide, Q) 0 (kX7_wide_0 g d ck sk Q) := s_aload_n dX7_wide_0 rfl (s_getf (ci := 7) (j := 0) (C := RX7) (T := TX7) (N := 4) dX7_wide_1 rfl (by decide) (by decide) qf_X7_9 (s_iconst dX7_wide_4 (s_iaload dX7_wide_5 (s_iret dX7_wide_6 rfl))))
theorem dX7_rows_0 : decode cX7_rows 0 = .ok (.aload_n 0, 1) := by decide +kernel
theorem dX7_rows_1 : decode cX7_rows 1 = .ok (.getfield 9, 3) := by decide +kernel
theorem dX7_rows_4 : decode cX7_rows 4 = .ok (.iconst 1, 1) := by decide +kernel
theorem dX7_rows_5 : decode cX7_rows 5 = .ok (.iaload, 1) := by decide +kernel
theorem dX7_rows_6 : decode cX7_rows 6 = .ok (.ireturn, 1) := by decide +kernel
def kX7_rows_0 (g : sk_G) (d ck sk : Nat) (Q : sk_P) : sk_K := o_aload 0 (o_getf 7 0 (o_i (1) (o_iaload (o_iret (g, d, ck, sk, xX7_rows, Q)))))
theorem tX7_rows_0 {g : sk_G} {d ck sk : Nat} {Q : sk_P} : sk_S (g, d, ck, sk, xX7_rows, Q) 0 (kX7_rows_0 g d ck sk Q) := s_aload_n dX7_rows_0 rfl (s_getf (ci := 7) (j := 0) (C := RX7) (T := TX7) (N := 4) dX7_rows_1 rfl (by decide) (by decide) qf_X7_9 (s_iconst dX7_rows_4 (s_iaload dX7_rows_5 (s_iret dX7_rows_6 rfl))))
theorem dX7_cells_0 : decode cX7_cells 0 = .ok (.aload_n 0, 1) := by decide +kernel
theorem dX7_cells_1 : decode cX7_cells 1 = .ok (.invokevirtual 77, 3) := by decide +kernel
theorem dX7_cells_4 : decode cX7_cells 4 = .ok (.aload_n 0, 1) := by decide +kernel
theorem dX7_cells_5 : decode cX7_cells 5 = .ok (.invokevirtual 80, 3) := by decide +kernel
theorem dX7_cells_8 : decode cX7_cells 8 = .ok (.imul, 1) := by decide +kernel
theorem dX7_cells_9 : decode cX7_cells 9 = .ok (.ireturn, 1) := by decide +kernel
set_option maxRecDepth 20000 in
def kX7_cells_0 (g : sk_G) (d ck sk : Nat) (Q : sk_P) : sk_K := o_aload 0 (o_invT (g, d, ck, sk, xX7_cells, Q) 1 0 7 (fun Q => kX7_wide_0 g (d - 1) 0 0 Q) (o_aload 0 (o_invT (g, d, ck, sk, xX7_cells, Q) 1 0 7 (fun Q => kX7_rows_0 g (d - 1) 0 0 Q) (o_imul (o_iret (g, d, ck, sk, xX7_cells, Q))))))
set_option maxRecDepth 20000 in
theorem tX7_cells_0 {g : sk_G} {d ck sk : Nat} {Q : sk_P} : sk_S (g, d, ck, sk, xX7_cells, Q) 0 (kX7_cells_0 g d ck sk Q) := s_aload_n dX7_cells_0 rfl (s_invT (X := xX7_wide) (ci := 7) (T := TX7) (N := 4) (K := (fun Q => kX7_wide_0 g (d - 1) 0 0 Q)) (fun _ => tX7_wide_0) rfl dX7_cells_1 m_X7_wide rfl (by decide) qm_X7_77 qi_X7_wide qe_X7_wide (s_aload_n dX7_cells_4 rfl (s_invT (X := xX7_rows) (ci := 7) (T := TX7) (N := 4) (K := (fun Q => kX7_rows_0 g (d - 1) 0 0 Q)) (fun _ => tX7_rows_0) rfl dX7_cells_5 m_X7_rows rfl (by decide) qm_X7_80 qi_X7_rows qe_X7_rows (s_imul dX7_cells_8 (s_iret dX7_cells_9 rfl)))))
theorem dX7_isSkin_0 : decode cX7_isSkin 0 = .ok (.aload_n 0, 1) := by decide +kernel
theorem dX7_isSkin_1 : decode cX7_isSkin 1 = .ok (.getfield 18, 3) := by decide +kernel
theorem dX7_isSkin_4 : decode cX7_isSkin 4 = .ok (.ifCond .le 7, 3) := by decide +kernel
theorem dX7_isSkin_7 : decode cX7_isSkin 7 = .ok (.iconst 1, 1) := by decide +kernel
theorem dX7_isSkin_8 : decode cX7_isSkin 8 = .ok (.goto 4, 3) := by decide +kernel
theorem dX7_isSkin_11 : decode cX7_isSkin 11 = .ok (.iconst 0, 1) := by decide +kernel
theorem dX7_isSkin_12 : decode cX7_isSkin 12 = .ok (.ireturn, 1) := by decide +kernel
def kX7_isSkin_0 (g : sk_G) (d ck sk : Nat) (Q : sk_P) : sk_K := o_aload 0 (o_getf 7 2 (o_ifle (o_i (0) (o_zret (g, d, ck, sk, xX7_isSkin, Q))) (o_i (1) (o_zret (g, d, ck, sk, xX7_isSkin, Q)))))
theorem tX7_isSkin_0 {g : sk_G} {d ck sk : Nat} {Q : sk_P} : sk_S (g, d, ck, sk, xX7_isSkin, Q) 0 (kX7_isSkin_0 g d ck sk Q) := s_aload_n dX7_isSkin_0 rfl (s_getf (ci := 7) (j := 2) (C := RX7) (T := TX7) (N := 4) dX7_isSkin_1 rfl (by decide) (by decide) qf_X7_18 (s_ifle (tgt := 11) dX7_isSkin_4 (by decide) (s_iconst dX7_isSkin_11 (s_zret dX7_isSkin_12 rfl)) (s_iconst dX7_isSkin_7 (s_goto (tgt := 12) dX7_isSkin_8 (by decide) (s_zret dX7_isSkin_12 rfl)))))
theorem dX7_hasCell_0 : decode cX7_hasCell 0 = .ok (.iload_n 1, 1) := by decide +kernel
theorem dX7_hasCell_1 : decode cX7_hasCell 1 = .ok (.ifCond .lt 15, 3) := by decide +kernel
theorem dX7_hasCell_4 : decode cX7_hasCell 4 = .ok (.iload_n 1, 1) := by decide +kernel
theorem dX7_hasCell_5 : decode cX7_hasCell 5 = .ok (.aload_n 0, 1) := by decide +kernel
theorem dX7_hasCell_6 : decode cX7_hasCell 6 = .ok (.invokevirtual 83, 3) := by decide +kernel
theorem dX7_hasCell_9 : decode cX7_hasCell 9 = .ok (.if_icmp .ge 7, 3) := by decide +kernel
theorem dX7_hasCell_12 : decode cX7_hasCell 12 = .ok (.iconst 1, 1) := by decide +kernel
theorem dX7_hasCell_13 : decode cX7_hasCell 13 = .ok (.goto 4, 3) := by decide +kernel
theorem dX7_hasCell_16 : decode cX7_hasCell 16 = .ok (.iconst 0, 1) := by decide +kernel
theorem dX7_hasCell_17 : decode cX7_hasCell 17 = .ok (.ireturn, 1) := by decide +kernel
set_option maxRecDepth 20000 in
def kX7_hasCell_0 (g : sk_G) (d ck sk : Nat) (Q : sk_P) : sk_K := o_iload 1 (o_iflt (o_i (0) (o_zret (g, d, ck, sk, xX7_hasCell, Q))) (o_iload 1 (o_aload 0 (o_invT (g, d, ck, sk, xX7_hasCell, Q) 1 0 7 (fun Q => kX7_cells_0 g (d - 1) 0 0 Q) (o_icge (o_i (0) (o_zret (g, d, ck, sk, xX7_hasCell, Q))) (o_i (1) (o_zret (g, d, ck, sk, xX7_hasCell, Q))))))))
set_option maxRecDepth 20000 in
theorem tX7_hasCell_0 {g : sk_G} {d ck sk : Nat} {Q : sk_P} : sk_S (g, d, ck, sk, xX7_hasCell, Q) 0 (kX7_hasCell_0 g d ck sk Q) := s_iload_n dX7_hasCell_0 rfl (s_iflt (tgt := 16) dX7_hasCell_1 (by decide) (s_iconst dX7_hasCell_16 (s_zret dX7_hasCell_17 rfl)) (s_iload_n dX7_hasCell_4 rfl (s_aload_n dX7_hasCell_5 rfl (s_invT (X := xX7_cells) (ci := 7) (T := TX7) (N := 4) (K := (fun Q => kX7_cells_0 g (d - 1) 0 0 Q)) (fun _ => tX7_cells_0) rfl dX7_hasCell_6 m_X7_cells rfl (by decide) qm_X7_83 qi_X7_cells qe_X7_cells (s_icge (tgt := 16) dX7_hasCell_9 (by decide) (s_iconst dX7_hasCell_16 (s_zret dX7_hasCell_17 rfl)) (s_iconst dX7_hasCell_12 (s_goto (tgt := 17) dX7_hasCell_13 (by decide) (s_zret dX7_hasCell_17 rfl))))))))
theorem dX7_hasHand_0 : decode cX7_hasHand 0 = .ok (.iload_n 1, 1) := by decide +kernel
theorem dX7_hasHand_1 : decode cX7_hasHand 1 = .ok (.ifCond .lt 15, 3) := by decide +kernel
theorem dX7_hasHand_4 : decode cX7_hasHand 4 = .ok (.iload_n 1, 1) := by decide +kernel
theorem dX7_hasHand_5 : decode cX7_hasHand 5 = .ok (.aload_n 0, 1) := by decide +kernel
theorem dX7_hasHand_6 : decode cX7_hasHand 6 = .ok (.getfield 18, 3) := by decide +kernel
theorem dX7_hasHand_9 : decode cX7_hasHand 9 = .ok (.if_icmp .ge 7, 3) := by decide +kernel
theorem dX7_hasHand_12 : decode cX7_hasHand 12 = .ok (.iconst 1, 1) := by decide +kernel
theorem dX7_hasHand_13 : decode cX7_hasHand 13 = .ok (.goto 4, 3) := by decide +kernel
theorem dX7_hasHand_16 : decode cX7_hasHand 16 = .ok (.iconst 0, 1) := by decide +kernel
theorem dX7_hasHand_17 : decode cX7_hasHand 17 = .ok (.ireturn, 1) := by decide +kernel
def kX7_hasHand_0 (g : sk_G) (d ck sk : Nat) (Q : sk_P) : sk_K := o_iload 1 (o_iflt (o_i (0) (o_zret (g, d, ck, sk, xX7_hasHand, Q))) (o_iload 1 (o_aload 0 (o_getf 7 2 (o_icge (o_i (0) (o_zret (g, d, ck, sk, xX7_hasHand, Q))) (o_i (1) (o_zret (g, d, ck, sk, xX7_hasHand, Q))))))))
theorem tX7_hasHand_0 {g : sk_G} {d ck sk : Nat} {Q : sk_P} : sk_S (g, d, ck, sk, xX7_hasHand, Q) 0 (kX7_hasHand_0 g d ck sk Q) := s_iload_n dX7_hasHand_0 rfl (s_iflt (tgt := 16) dX7_hasHand_1 (by decide) (s_iconst dX7_hasHand_16 (s_zret dX7_hasHand_17 rfl)) (s_iload_n dX7_hasHand_4 rfl (s_aload_n dX7_hasHand_5 rfl (s_getf (ci := 7) (j := 2) (C := RX7) (T := TX7) (N := 4) dX7_hasHand_6 rfl (by decide) (by decide) qf_X7_18 (s_icge (tgt := 16) dX7_hasHand_9 (by decide) (s_iconst dX7_hasHand_16 (s_zret dX7_hasHand_17 rfl)) (s_iconst dX7_hasHand_12 (s_goto (tgt := 17) dX7_hasHand_13 (by decide) (s_zret dX7_hasHand_17 rfl))))))))
theorem dX7_spots_0 : decode cX7_spots 0 = .ok (.iconst 4, 1) := by decide +kernel
theorem dX7_spots_1 : decode cX7_spots 1 = .ok (.aload_n 0, 1) := by decide +kernel
theorem dX7_spots_2 : decode cX7_spots 2 = .ok (.invokevirtual 83, 3) := by decide +kernel
theorem dX7_spots_5 : decode cX7_spots 5 = .ok (.imul, 1) := by decide +kernel
theorem dX7_spots_6 : decode cX7_spots 6 = .ok (.ireturn, 1) := by decide +kernel
set_option maxRecDepth 20000 in
def kX7_spots_0 (g : sk_G) (d ck sk : Nat) (Q : sk_P) : sk_K := o_i (4) (o_aload 0 (o_invT (g, d, ck, sk, xX7_spots, Q) 1 0 7 (fun Q => kX7_cells_0 g (d - 1) 0 0 Q) (o_imul (o_iret (g, d, ck, sk, xX7_spots, Q)))))
set_option maxRecDepth 20000 in
theorem tX7_spots_0 {g : sk_G} {d ck sk : Nat} {Q : sk_P} : sk_S (g, d, ck, sk, xX7_spots, Q) 0 (kX7_spots_0 g d ck sk Q) := s_iconst dX7_spots_0 (s_aload_n dX7_spots_1 rfl (s_invT (X := xX7_cells) (ci := 7) (T := TX7) (N := 4) (K := (fun Q => kX7_cells_0 g (d - 1) 0 0 Q)) (fun _ => tX7_cells_0) rfl dX7_spots_2 m_X7_cells rfl (by decide) qm_X7_83 qi_X7_cells qe_X7_cells (s_imul dX7_spots_5 (s_iret dX7_spots_6 rfl))))
theorem dX7_rowOf_0 : decode cX7_rowOf 0 = .ok (.aload_n 0, 1) := by decide +kernel
theorem dX7_rowOf_1 : decode cX7_rowOf 1 = .ok (.invokevirtual 77, 3) := by decide +kernel
theorem dX7_rowOf_4 : decode cX7_rowOf 4 = .ok (.ifCond .ne 7, 3) := by decide +kernel
theorem dX7_rowOf_7 : decode cX7_rowOf 7 = .ok (.iconst 0, 1) := by decide +kernel
theorem dX7_rowOf_8 : decode cX7_rowOf 8 = .ok (.goto 9, 3) := by decide +kernel
theorem dX7_rowOf_11 : decode cX7_rowOf 11 = .ok (.iload_n 1, 1) := by decide +kernel
theorem dX7_rowOf_12 : decode cX7_rowOf 12 = .ok (.aload_n 0, 1) := by decide +kernel
theorem dX7_rowOf_13 : decode cX7_rowOf 13 = .ok (.invokevirtual 77, 3) := by decide +kernel
theorem dX7_rowOf_16 : decode cX7_rowOf 16 = .ok (.idiv, 1) := by decide +kernel
theorem dX7_rowOf_17 : decode cX7_rowOf 17 = .ok (.ireturn, 1) := by decide +kernel
set_option maxRecDepth 20000 in
def kX7_rowOf_0 (g : sk_G) (d ck sk : Nat) (Q : sk_P) : sk_K := o_aload 0 (o_invT (g, d, ck, sk, xX7_rowOf, Q) 1 0 7 (fun Q => kX7_wide_0 g (d - 1) 0 0 Q) (o_ifne (o_iload 1 (o_aload 0 (o_invT (g, d, ck, sk, xX7_rowOf, Q) 1 0 7 (fun Q => kX7_wide_0 g (d - 1) 0 0 Q) (o_idiv (o_iret (g, d, ck, sk, xX7_rowOf, Q)))))) (o_i (0) (o_iret (g, d, ck, sk, xX7_rowOf, Q)))))
set_option maxRecDepth 20000 in
theorem tX7_rowOf_0 {g : sk_G} {d ck sk : Nat} {Q : sk_P} : sk_S (g, d, ck, sk, xX7_rowOf, Q) 0 (kX7_rowOf_0 g d ck sk Q) := s_aload_n dX7_rowOf_0 rfl (s_invT (X := xX7_wide) (ci := 7) (T := TX7) (N := 4) (K := (fun Q => kX7_wide_0 g (d - 1) 0 0 Q)) (fun _ => tX7_wide_0) rfl dX7_rowOf_1 m_X7_wide rfl (by decide) qm_X7_77 qi_X7_wide qe_X7_wide (s_ifne (tgt := 11) dX7_rowOf_4 (by decide) (s_iload_n dX7_rowOf_11 rfl (s_aload_n dX7_rowOf_12 rfl (s_invT (X := xX7_wide) (ci := 7) (T := TX7) (N := 4) (K := (fun Q => kX7_wide_0 g (d - 1) 0 0 Q)) (fun _ => tX7_wide_0) rfl dX7_rowOf_13 m_X7_wide rfl (by decide) qm_X7_77 qi_X7_wide qe_X7_wide (s_idiv dX7_rowOf_16 (s_iret dX7_rowOf_17 rfl))))) (s_iconst dX7_rowOf_7 (s_goto (tgt := 17) dX7_rowOf_8 (by decide) (s_iret dX7_rowOf_17 rfl)))))
theorem dX7_firstOf_0 : decode cX7_firstOf 0 = .ok (.iload_n 1, 1) := by decide +kernel
theorem dX7_firstOf_1 : decode cX7_firstOf 1 = .ok (.aload_n 0, 1) := by decide +kernel
theorem dX7_firstOf_2 : decode cX7_firstOf 2 = .ok (.invokevirtual 77, 3) := by decide +kernel
theorem dX7_firstOf_5 : decode cX7_firstOf 5 = .ok (.imul, 1) := by decide +kernel
theorem dX7_firstOf_6 : decode cX7_firstOf 6 = .ok (.ireturn, 1) := by decide +kernel
set_option maxRecDepth 20000 in
def kX7_firstOf_0 (g : sk_G) (d ck sk : Nat) (Q : sk_P) : sk_K := o_iload 1 (o_aload 0 (o_invT (g, d, ck, sk, xX7_firstOf, Q) 1 0 7 (fun Q => kX7_wide_0 g (d - 1) 0 0 Q) (o_imul (o_iret (g, d, ck, sk, xX7_firstOf, Q)))))
set_option maxRecDepth 20000 in
theorem tX7_firstOf_0 {g : sk_G} {d ck sk : Nat} {Q : sk_P} : sk_S (g, d, ck, sk, xX7_firstOf, Q) 0 (kX7_firstOf_0 g d ck sk Q) := s_iload_n dX7_firstOf_0 rfl (s_aload_n dX7_firstOf_1 rfl (s_invT (X := xX7_wide) (ci := 7) (T := TX7) (N := 4) (K := (fun Q => kX7_wide_0 g (d - 1) 0 0 Q)) (fun _ => tX7_wide_0) rfl dX7_firstOf_2 m_X7_wide rfl (by decide) qm_X7_77 qi_X7_wide qe_X7_wide (s_imul dX7_firstOf_5 (s_iret dX7_firstOf_6 rfl))))
theorem dX7_placeOf_0 : decode cX7_placeOf 0 = .ok (.iload_n 1, 1) := by decide +kernel
theorem dX7_placeOf_1 : decode cX7_placeOf 1 = .ok (.aload_n 0, 1) := by decide +kernel
theorem dX7_placeOf_2 : decode cX7_placeOf 2 = .ok (.aload_n 0, 1) := by decide +kernel
theorem dX7_placeOf_3 : decode cX7_placeOf 3 = .ok (.iload_n 1, 1) := by decide +kernel
theorem dX7_placeOf_4 : decode cX7_placeOf 4 = .ok (.invokevirtual 89, 3) := by decide +kernel
theorem dX7_placeOf_7 : decode cX7_placeOf 7 = .ok (.invokevirtual 92, 3) := by decide +kernel
theorem dX7_placeOf_10 : decode cX7_placeOf 10 = .ok (.isub, 1) := by decide +kernel
theorem dX7_placeOf_11 : decode cX7_placeOf 11 = .ok (.ireturn, 1) := by decide +kernel
set_option maxRecDepth 20000 in
def kX7_placeOf_0 (g : sk_G) (d ck sk : Nat) (Q : sk_P) : sk_K := o_iload 1 (o_aload 0 (o_aload 0 (o_iload 1 (o_invT (g, d, ck, sk, xX7_placeOf, Q) 2 1 7 (fun Q => kX7_rowOf_0 g (d - 1) 0 0 Q) (o_invT (g, d, ck, sk, xX7_placeOf, Q) 2 1 7 (fun Q => kX7_firstOf_0 g (d - 1) 0 0 Q) (o_isub (o_iret (g, d, ck, sk, xX7_placeOf, Q))))))))
set_option maxRecDepth 20000 in
theorem tX7_placeOf_0 {g : sk_G} {d ck sk : Nat} {Q : sk_P} : sk_S (g, d, ck, sk, xX7_placeOf, Q) 0 (kX7_placeOf_0 g d ck sk Q) := s_iload_n dX7_placeOf_0 rfl (s_aload_n dX7_placeOf_1 rfl (s_aload_n dX7_placeOf_2 rfl (s_iload_n dX7_placeOf_3 rfl (s_invT (X := xX7_rowOf) (ci := 7) (T := TX7) (N := 4) (K := (fun Q => kX7_rowOf_0 g (d - 1) 0 0 Q)) (fun _ => tX7_rowOf_0) rfl dX7_placeOf_4 m_X7_rowOf rfl (by decide) qm_X7_89 qi_X7_rowOf qe_X7_rowOf (s_invT (X := xX7_firstOf) (ci := 7) (T := TX7) (N := 4) (K := (fun Q => kX7_firstOf_0 g (d - 1) 0 0 Q)) (fun _ => tX7_firstOf_0) rfl dX7_placeOf_7 m_X7_firstOf rfl (by decide) qm_X7_92 qi_X7_firstOf qe_X7_firstOf (s_isub dX7_placeOf_10 (s_iret dX7_placeOf_11 rfl)))))))
theorem dX7_hasRow_0 : decode cX7_hasRow 0 = .ok (.iload_n 1, 1) := by decide +kernel
theorem dX7_hasRow_1 : decode cX7_hasRow 1 = .ok (.ifCond .lt 15, 3) := by decide +kernel
theorem dX7_hasRow_4 : decode cX7_hasRow 4 = .ok (.iload_n 1, 1) := by decide +kernel
theorem dX7_hasRow_5 : decode cX7_hasRow 5 = .ok (.aload_n 0, 1) := by decide +kernel
theorem dX7_hasRow_6 : decode cX7_hasRow 6 = .ok (.invokevirtual 80, 3) := by decide +kernel
theorem dX7_hasRow_9 : decode cX7_hasRow 9 = .ok (.if_icmp .ge 7, 3) := by decide +kernel
theorem dX7_hasRow_12 : decode cX7_hasRow 12 = .ok (.iconst 1, 1) := by decide +kernel
theorem dX7_hasRow_13 : decode cX7_hasRow 13 = .ok (.goto 4, 3) := by decide +kernel
theorem dX7_hasRow_16 : decode cX7_hasRow 16 = .ok (.iconst 0, 1) := by decide +kernel
theorem dX7_hasRow_17 : decode cX7_hasRow 17 = .ok (.ireturn, 1) := by decide +kernel
set_option maxRecDepth 20000 in
def kX7_hasRow_0 (g : sk_G) (d ck sk : Nat) (Q : sk_P) : sk_K := o_iload 1 (o_iflt (o_i (0) (o_zret (g, d, ck, sk, xX7_hasRow, Q))) (o_iload 1 (o_aload 0 (o_invT (g, d, ck, sk, xX7_hasRow, Q) 1 0 7 (fun Q => kX7_rows_0 g (d - 1) 0 0 Q) (o_icge (o_i (0) (o_zret (g, d, ck, sk, xX7_hasRow, Q))) (o_i (1) (o_zret (g, d, ck, sk, xX7_hasRow, Q))))))))
set_option maxRecDepth 20000 in
theorem tX7_hasRow_0 {g : sk_G} {d ck sk : Nat} {Q : sk_P} : sk_S (g, d, ck, sk, xX7_hasRow, Q) 0 (kX7_hasRow_0 g d ck sk Q) := s_iload_n dX7_hasRow_0 rfl (s_iflt (tgt := 16) dX7_hasRow_1 (by decide) (s_iconst dX7_hasRow_16 (s_zret dX7_hasRow_17 rfl)) (s_iload_n dX7_hasRow_4 rfl (s_aload_n dX7_hasRow_5 rfl (s_invT (X := xX7_rows) (ci := 7) (T := TX7) (N := 4) (K := (fun Q => kX7_rows_0 g (d - 1) 0 0 Q)) (fun _ => tX7_rows_0) rfl dX7_hasRow_6 m_X7_rows rfl (by decide) qm_X7_80 qi_X7_rows qe_X7_rows (s_icge (tgt := 16) dX7_hasRow_9 (by decide) (s_iconst dX7_hasRow_16 (s_zret dX7_hasRow_17 rfl)) (s_iconst dX7_hasRow_12 (s_goto (tgt := 17) dX7_hasRow_13 (by decide) (s_zret dX7_hasRow_17 rfl))))))))
theorem dX7_ofHand_0 : decode cX7_ofHand 0 = .ok (.aload_n 0, 1) := by decide +kernel
theorem dX7_ofHand_1 : decode cX7_ofHand 1 = .ok (.iload_n 1, 1) := by decide +kernel
theorem dX7_ofHand_2 : decode cX7_ofHand 2 = .ok (.invokevirtual 86, 3) := by decide +kernel
theorem dX7_ofHand_5 : decode cX7_ofHand 5 = .ok (.ifCond .eq 16, 3) := by decide +kernel
theorem dX7_ofHand_8 : decode cX7_ofHand 8 = .ok (.aload_n 0, 1) := by decide +kernel
theorem dX7_ofHand_9 : decode cX7_ofHand 9 = .ok (.getfield 15, 3) := by decide +kernel
theorem dX7_ofHand_12 : decode cX7_ofHand 12 = .ok (.iconst 2, 1) := by decide +kernel
theorem dX7_ofHand_13 : decode cX7_ofHand 13 = .ok (.iload_n 1, 1) := by decide +kernel
theorem dX7_ofHand_14 : decode cX7_ofHand 14 = .ok (.imul, 1) := by decide +kernel
theorem dX7_ofHand_15 : decode cX7_ofHand 15 = .ok (.iload_n 2, 1) := by decide +kernel
theorem dX7_ofHand_16 : decode cX7_ofHand 16 = .ok (.iadd, 1) := by decide +kernel
theorem dX7_ofHand_17 : decode cX7_ofHand 17 = .ok (.iaload, 1) := by decide +kernel
theorem dX7_ofHand_18 : decode cX7_ofHand 18 = .ok (.goto 4, 3) := by decide +kernel
theorem dX7_ofHand_21 : decode cX7_ofHand 21 = .ok (.iconst 0, 1) := by decide +kernel
theorem dX7_ofHand_22 : decode cX7_ofHand 22 = .ok (.ireturn, 1) := by decide +kernel
set_option maxRecDepth 20000 in
def kX7_ofHand_0 (g : sk_G) (d ck sk : Nat) (Q : sk_P) : sk_K := o_aload 0 (o_iload 1 (o_invT (g, d, ck, sk, xX7_ofHand, Q) 2 1 7 (fun Q => kX7_hasHand_0 g (d - 1) 0 0 Q) (o_ifeq (o_i (0) (o_iret (g, d, ck, sk, xX7_ofHand, Q))) (o_aload 0 (o_getf 7 1 (o_i (2) (o_iload 1 (o_imul (o_iload 2 (o_iadd (o_iaload (o_iret (g, d, ck, sk, xX7_ofHand, Q)))))))))))))
set_option maxRecDepth 20000 in
theorem tX7_ofHand_0 {g : sk_G} {d ck sk : Nat} {Q : sk_P} : sk_S (g, d, ck, sk, xX7_ofHand, Q) 0 (kX7_ofHand_0 g d ck sk Q) := s_aload_n dX7_ofHand_0 rfl (s_iload_n dX7_ofHand_1 rfl (s_invT (X := xX7_hasHand) (ci := 7) (T := TX7) (N := 4) (K := (fun Q => kX7_hasHand_0 g (d - 1) 0 0 Q)) (fun _ => tX7_hasHand_0) rfl dX7_ofHand_2 m_X7_hasHand rfl (by decide) qm_X7_86 qi_X7_hasHand qe_X7_hasHand (s_ifeq (tgt := 21) dX7_ofHand_5 (by decide) (s_iconst dX7_ofHand_21 (s_iret dX7_ofHand_22 rfl)) (s_aload_n dX7_ofHand_8 rfl (s_getf (ci := 7) (j := 1) (C := RX7) (T := TX7) (N := 4) dX7_ofHand_9 rfl (by decide) (by decide) qf_X7_15 (s_iconst dX7_ofHand_12 (s_iload_n dX7_ofHand_13 rfl (s_imul dX7_ofHand_14 (s_iload_n dX7_ofHand_15 rfl (s_iadd dX7_ofHand_16 (s_iaload dX7_ofHand_17 (s_goto (tgt := 22) dX7_ofHand_18 (by decide) (s_iret dX7_ofHand_22 rfl)))))))))))))
theorem dX7_legible_0 : decode cX7_legible 0 = .ok (.aload_n 0, 1) := by decide +kernel
theorem dX7_legible_1 : decode cX7_legible 1 = .ok (.getfield 9, 3) := by decide +kernel
theorem dX7_legible_4 : decode cX7_legible 4 = .ok (.iconst 2, 1) := by decide +kernel
theorem dX7_legible_5 : decode cX7_legible 5 = .ok (.iaload, 1) := by decide +kernel
theorem dX7_legible_6 : decode cX7_legible 6 = .ok (.ireturn, 1) := by decide +kernel
def kX7_legible_0 (g : sk_G) (d ck sk : Nat) (Q : sk_P) : sk_K := o_aload 0 (o_getf 7 0 (o_i (2) (o_iaload (o_iret (g, d, ck, sk, xX7_legible, Q)))))
theorem tX7_legible_0 {g : sk_G} {d ck sk : Nat} {Q : sk_P} : sk_S (g, d, ck, sk, xX7_legible, Q) 0 (kX7_legible_0 g d ck sk Q) := s_aload_n dX7_legible_0 rfl (s_getf (ci := 7) (j := 0) (C := RX7) (T := TX7) (N := 4) dX7_legible_1 rfl (by decide) (by decide) qf_X7_9 (s_iconst dX7_legible_4 (s_iaload dX7_legible_5 (s_iret dX7_legible_6 rfl))))
theorem dX7_init_0 : decode cX7_init 0 = .ok (.aload_n 0, 1) := by decide +kernel
theorem dX7_init_1 : decode cX7_init 1 = .ok (.invokespecial 3, 3) := by decide +kernel
theorem dX7_init_4 : decode cX7_init 4 = .ok (.aload_n 0, 1) := by decide +kernel
theorem dX7_init_5 : decode cX7_init 5 = .ok (.iconst 4, 1) := by decide +kernel
theorem dX7_init_6 : decode cX7_init 6 = .ok (.newarray .int, 2) := by decide +kernel
theorem dX7_init_8 : decode cX7_init 8 = .ok (.putfield 9, 3) := by decide +kernel
theorem dX7_init_11 : decode cX7_init 11 = .ok (.aload_n 0, 1) := by decide +kernel
theorem dX7_init_12 : decode cX7_init 12 = .ok (.bipush 8, 2) := by decide +kernel
theorem dX7_init_14 : decode cX7_init 14 = .ok (.newarray .int, 2) := by decide +kernel
theorem dX7_init_16 : decode cX7_init 16 = .ok (.putfield 15, 3) := by decide +kernel
theorem dX7_init_19 : decode cX7_init 19 = .ok (.return_, 1) := by decide +kernel
set_option maxRecDepth 20000 in
def kX7_init_0 (g : sk_G) (d ck sk : Nat) (Q : sk_P) : sk_K := o_aload 0 (o_obj (g, d, ck, sk, xX7_init, Q) (o_aload 0 (o_i (4) (o_newa (g, d, ck, sk, xX7_init, Q) 20 4 (sk_I (fun _ => 0)) (o_puta 7 0 (o_aload 0 (o_i (8) (o_newa (g, d, ck - 1, sk - 4, xX7_init, Q) 20 8 (sk_I (fun _ => 0)) (o_puta 7 1 (o_ret (g, d, ck - 1 - 1, sk - 4 - 8, xX7_init, Q)))))))))))
set_option maxRecDepth 20000 in
theorem tX7_init_0 {g : sk_G} {d ck sk : Nat} {Q : sk_P} : sk_S (g, d, ck, sk, xX7_init, Q) 0 (kX7_init_0 g d ck sk Q) := s_aload_n dX7_init_0 rfl (s_obj dX7_init_1 qm_X7_3 qi_obj qc_obj (s_aload_n dX7_init_4 rfl (s_iconst dX7_init_5 (s_newI (w' := (g, d, ck - 1, sk - 4, xX7_init, Q)) (N := 4) dX7_init_6 (by decide) qr_int rfl (s_putaF (ci := 7) (j := 0) (C := RX7) (T := TX7) (N := 4) dX7_init_8 rfl (by decide) (by decide) rfl rfl rfl (Or.inr ⟨_, rfl⟩) (tyX7_ok 0 (by decide)) qf_X7_9 (s_aload_n dX7_init_11 rfl (s_bipush dX7_init_12 rfl (s_newI (w' := (g, d, ck - 1 - 1, sk - 4 - 8, xX7_init, Q)) (N := 8) dX7_init_14 (by decide) qr_int rfl (s_putaF (ci := 7) (j := 1) (C := RX7) (T := TX7) (N := 4) dX7_init_16 rfl (by decide) (by decide) rfl rfl rfl (Or.inr ⟨_, rfl⟩) (tyX7_ok 1 (by decide)) qf_X7_15 (s_ret dX7_init_19 rfl))))))))))
theorem dX7_read_0 : decode cX7_read 0 = .ok (.aload_n 0, 1) := by decide +kernel
theorem dX7_read_1 : decode cX7_read 1 = .ok (.getfield 9, 3) := by decide +kernel
theorem dX7_read_4 : decode cX7_read 4 = .ok (.iconst 0, 1) := by decide +kernel
theorem dX7_read_5 : decode cX7_read 5 = .ok (.bipush 6, 2) := by decide +kernel
theorem dX7_read_7 : decode cX7_read 7 = .ok (.iastore, 1) := by decide +kernel
theorem dX7_read_8 : decode cX7_read 8 = .ok (.aload_n 0, 1) := by decide +kernel
theorem dX7_read_9 : decode cX7_read 9 = .ok (.getfield 9, 3) := by decide +kernel
theorem dX7_read_12 : decode cX7_read 12 = .ok (.iconst 1, 1) := by decide +kernel
theorem dX7_read_13 : decode cX7_read 13 = .ok (.iconst 4, 1) := by decide +kernel
theorem dX7_read_14 : decode cX7_read 14 = .ok (.iastore, 1) := by decide +kernel
theorem dX7_read_15 : decode cX7_read 15 = .ok (.aload_n 0, 1) := by decide +kernel
theorem dX7_read_16 : decode cX7_read 16 = .ok (.getfield 9, 3) := by decide +kernel
theorem dX7_read_19 : decode cX7_read 19 = .ok (.iconst 2, 1) := by decide +kernel
theorem dX7_read_20 : decode cX7_read 20 = .ok (.iconst 3, 1) := by decide +kernel
theorem dX7_read_21 : decode cX7_read 21 = .ok (.iastore, 1) := by decide +kernel
theorem dX7_read_22 : decode cX7_read 22 = .ok (.aload_n 0, 1) := by decide +kernel
theorem dX7_read_23 : decode cX7_read 23 = .ok (.getfield 9, 3) := by decide +kernel
theorem dX7_read_26 : decode cX7_read 26 = .ok (.iconst 3, 1) := by decide +kernel
theorem dX7_read_27 : decode cX7_read 27 = .ok (.bipush 20, 2) := by decide +kernel
theorem dX7_read_29 : decode cX7_read 29 = .ok (.iastore, 1) := by decide +kernel
theorem dX7_read_30 : decode cX7_read 30 = .ok (.aload_n 0, 1) := by decide +kernel
theorem dX7_read_31 : decode cX7_read 31 = .ok (.iconst 0, 1) := by decide +kernel
theorem dX7_read_32 : decode cX7_read 32 = .ok (.putfield 18, 3) := by decide +kernel
theorem dX7_read_35 : decode cX7_read 35 = .ok (.aload_n 0, 1) := by decide +kernel
theorem dX7_read_36 : decode cX7_read 36 = .ok (.iconst 0, 1) := by decide +kernel
theorem dX7_read_37 : decode cX7_read 37 = .ok (.putfield 22, 3) := by decide +kernel
theorem dX7_read_40 : decode cX7_read 40 = .ok (.iconst 0, 1) := by decide +kernel
theorem dX7_read_41 : decode cX7_read 41 = .ok (.istore_n 2, 1) := by decide +kernel
theorem dX7_read_42 : decode cX7_read 42 = .ok (.iload_n 2, 1) := by decide +kernel
theorem dX7_read_43 : decode cX7_read 43 = .ok (.iconst 5, 1) := by decide +kernel
theorem dX7_read_44 : decode cX7_read 44 = .ok (.if_icmp .gt 51, 3) := by decide +kernel
theorem dX7_read_47 : decode cX7_read 47 = .ok (.aload_n 0, 1) := by decide +kernel
theorem dX7_read_48 : decode cX7_read 48 = .ok (.aload_n 1, 1) := by decide +kernel
theorem dX7_read_49 : decode cX7_read 49 = .ok (.invokevirtual 26, 3) := by decide +kernel
theorem dX7_read_52 : decode cX7_read 52 = .ok (.ifCond .ne 5, 3) := by decide +kernel
theorem dX7_read_55 : decode cX7_read 55 = .ok (.iconst 0, 1) := by decide +kernel
theorem dX7_read_56 : decode cX7_read 56 = .ok (.ireturn, 1) := by decide +kernel
theorem dX7_read_57 : decode cX7_read 57 = .ok (.aload_n 1, 1) := by decide +kernel
theorem dX7_read_58 : decode cX7_read 58 = .ok (.invokevirtual 30, 3) := by decide +kernel
theorem dX7_read_61 : decode cX7_read 61 = .ok (.iconst (-1), 1) := by decide +kernel
theorem dX7_read_62 : decode cX7_read 62 = .ok (.if_icmp .ne 16, 3) := by decide +kernel
theorem dX7_read_65 : decode cX7_read 65 = .ok (.aload_n 0, 1) := by decide +kernel
theorem dX7_read_66 : decode cX7_read 66 = .ok (.getfield 18, 3) := by decide +kernel
theorem dX7_read_69 : decode cX7_read 69 = .ok (.ifCond .le 7, 3) := by decide +kernel
theorem dX7_read_72 : decode cX7_read 72 = .ok (.iconst 1, 1) := by decide +kernel
theorem dX7_read_73 : decode cX7_read 73 = .ok (.goto 4, 3) := by decide +kernel
theorem dX7_read_76 : decode cX7_read 76 = .ok (.iconst 0, 1) := by decide +kernel
theorem dX7_read_77 : decode cX7_read 77 = .ok (.ireturn, 1) := by decide +kernel
theorem dX7_read_78 : decode cX7_read 78 = .ok (.aload_n 1, 1) := by decide +kernel
theorem dX7_read_79 : decode cX7_read 79 = .ok (.bipush 59, 2) := by decide +kernel
theorem dX7_read_81 : decode cX7_read 81 = .ok (.invokevirtual 36, 3) := by decide +kernel
theorem dX7_read_84 : decode cX7_read 84 = .ok (.ifCond .ne 5, 3) := by decide +kernel
theorem dX7_read_87 : decode cX7_read 87 = .ok (.iconst 0, 1) := by decide +kernel
theorem dX7_read_88 : decode cX7_read 88 = .ok (.ireturn, 1) := by decide +kernel
theorem dX7_read_89 : decode cX7_read 89 = .ok (.iinc 2 1, 3) := by decide +kernel
theorem dX7_read_92 : decode cX7_read 92 = .ok (.goto (-50), 3) := by decide +kernel
theorem dX7_read_95 : decode cX7_read 95 = .ok (.iconst 0, 1) := by decide +kernel
theorem dX7_read_96 : decode cX7_read 96 = .ok (.ireturn, 1) := by decide +kernel
set_option maxRecDepth 20000 in
def kX7_read_0 (g : sk_G) (d ck sk : Nat) (Q : sk_P) : sk_K := o_aload 0 (o_getf 7 0 (o_i (0) (o_i (6) (o_iastore (o_aload 0 (o_getf 7 0 (o_i (1) (o_i (4) (o_iastore (o_aload 0 (o_getf 7 0 (o_i (2) (o_i (3) (o_iastore (o_aload 0 (o_getf 7 0 (o_i (3) (o_i (20) (o_iastore (o_aload 0 (o_i (0) (o_puti 7 2 (o_aload 0 (o_i (0) (o_putz 7 3 (o_i (0) (o_istore 2 (sk_B (g, d, ck, sk, xX7_read, Q) 42))))))))))))))))))))))))))))
set_option maxRecDepth 20000 in
theorem tX7_read_0 {g : sk_G} {d ck sk : Nat} {Q : sk_P} : sk_S (g, d, ck, sk, xX7_read, Q) 0 (kX7_read_0 g d ck sk Q) := s_aload_n dX7_read_0 rfl (s_getf (ci := 7) (j := 0) (C := RX7) (T := TX7) (N := 4) dX7_read_1 rfl (by decide) (by decide) qf_X7_9 (s_iconst dX7_read_4 (s_bipush dX7_read_5 rfl (s_iastore dX7_read_7 (s_aload_n dX7_read_8 rfl (s_getf (ci := 7) (j := 0) (C := RX7) (T := TX7) (N := 4) dX7_read_9 rfl (by decide) (by decide) qf_X7_9 (s_iconst dX7_read_12 (s_iconst dX7_read_13 (s_iastore dX7_read_14 (s_aload_n dX7_read_15 rfl (s_getf (ci := 7) (j := 0) (C := RX7) (T := TX7) (N := 4) dX7_read_16 rfl (by decide) (by decide) qf_X7_9 (s_iconst dX7_read_19 (s_iconst dX7_read_20 (s_iastore dX7_read_21 (s_aload_n dX7_read_22 rfl (s_getf (ci := 7) (j := 0) (C := RX7) (T := TX7) (N := 4) dX7_read_23 rfl (by decide) (by decide) qf_X7_9 (s_iconst dX7_read_26 (s_bipush dX7_read_27 rfl (s_iastore dX7_read_29 (s_aload_n dX7_read_30 rfl (s_iconst dX7_read_31 (s_puti (ci := 7) (j := 2) (C := RX7) (T := TX7) (N := 4) dX7_read_32 rfl (by decide) (by decide) rfl (tyX7_ok 2 (by decide)) qf_X7_18 (s_aload_n dX7_read_35 rfl (s_iconst dX7_read_36 (s_putz (ci := 7) (j := 3) (C := RX7) (T := TX7) (N := 4) dX7_read_37 rfl (by decide) (by decide) rfl (tyX7_ok 3 (by decide)) qf_X7_22 (s_iconst dX7_read_40 (s_istore_n dX7_read_41 rfl (by decide : 2 < 3) (sk_id))))))))))))))))))))))))))))
set_option maxRecDepth 20000 in
def kX7_read_42 (g : sk_G) (d ck sk : Nat) (Q : sk_P) : sk_K := o_iload 2 (o_i (5) (o_icgt (o_i (0) (o_zret (g, d, ck, sk, xX7_read, Q))) (o_aload 0 (o_aload 1 (o_invB (g, d, ck, sk, xX7_read, Q) xX7_readClause 1 7 0 0 (o_ifne (o_aload 1 (o_invB (g, d, ck, sk, xX7_read, Q) xX9_peek 0 9 0 0 (o_i (-1) (o_icne (o_aload 1 (o_i (59) (o_invB (g, d, ck, sk, xX7_read, Q) xX9_eats 1 9 0 0 (o_ifne (o_iinc 2 (1) (sk_B (g, d, ck, sk, xX7_read, Q) 42)) (o_i (0) (o_zret (g, d, ck, sk, xX7_read, Q))))))) (o_aload 0 (o_getf 7 2 (o_ifle (o_i (0) (o_zret (g, d, ck, sk, xX7_read, Q))) (o_i (1) (o_zret (g, d, ck, sk, xX7_read, Q)))))))))) (o_i (0) (o_zret (g, d, ck, sk, xX7_read, Q)))))))))
set_option maxRecDepth 20000 in
theorem tX7_read_42 {g : sk_G} {d ck sk : Nat} {Q : sk_P} : sk_S (g, d, ck, sk, xX7_read, Q) 42 (kX7_read_42 g d ck sk Q) := s_iload_n dX7_read_42 rfl (s_iconst dX7_read_43 (s_icgt (tgt := 95) dX7_read_44 (by decide) (s_iconst dX7_read_95 (s_zret dX7_read_96 rfl)) (s_aload_n dX7_read_47 rfl (s_aload_n dX7_read_48 rfl (s_invB (w' := (g, d, ck, sk, xX7_read, Q)) (ci := 7) (ck := 0) (sk := 0) (T := TX7) (N := 4) dX7_read_49 m_X7_readClause rfl (by decide) qm_X7_26 qi_X7_readClause qe_X7_readClause rfl (s_ifne (tgt := 57) dX7_read_52 (by decide) (s_aload_n dX7_read_57 rfl (s_invB (w' := (g, d, ck, sk, xX7_read, Q)) (ci := 9) (ck := 0) (sk := 0) (T := TX9) (N := 3) dX7_read_58 m_X9_peek rfl (by decide) qm_X7_30 qi_X9_peek qe_X9_peek rfl (s_iconst dX7_read_61 (s_icne (tgt := 78) dX7_read_62 (by decide) (s_aload_n dX7_read_78 rfl (s_bipush dX7_read_79 rfl (s_invB (w' := (g, d, ck, sk, xX7_read, Q)) (ci := 9) (ck := 0) (sk := 0) (T := TX9) (N := 3) dX7_read_81 m_X9_eats rfl (by decide) qm_X7_36 qi_X9_eats qe_X9_eats rfl (s_ifne (tgt := 89) dX7_read_84 (by decide) (s_iinc dX7_read_89 (by decide : 2 < 3) (s_goto (tgt := 42) dX7_read_92 (by decide) (sk_id))) (s_iconst dX7_read_87 (s_zret dX7_read_88 rfl)))))) (s_aload_n dX7_read_65 rfl (s_getf (ci := 7) (j := 2) (C := RX7) (T := TX7) (N := 4) dX7_read_66 rfl (by decide) (by decide) qf_X7_18 (s_ifle (tgt := 76) dX7_read_69 (by decide) (s_iconst dX7_read_76 (s_zret dX7_read_77 rfl)) (s_iconst dX7_read_72 (s_goto (tgt := 77) dX7_read_73 (by decide) (s_zret dX7_read_77 rfl)))))))))) (s_iconst dX7_read_55 (s_zret dX7_read_56 rfl))))))))
theorem dX7_readClause_0 : decode cX7_readClause 0 = .ok (.aload_n 1, 1) := by decide +kernel
theorem dX7_readClause_1 : decode cX7_readClause 1 = .ok (.invokevirtual 30, 3) := by decide +kernel
theorem dX7_readClause_4 : decode cX7_readClause 4 = .ok (.istore_n 2, 1) := by decide +kernel
theorem dX7_readClause_5 : decode cX7_readClause 5 = .ok (.iload_n 2, 1) := by decide +kernel
theorem dX7_readClause_6 : decode cX7_readClause 6 = .ok (.bipush 115, 2) := by decide +kernel
theorem dX7_readClause_8 : decode cX7_readClause 8 = .ok (.if_icmp .ne 34, 3) := by decide +kernel
theorem dX7_readClause_11 : decode cX7_readClause 11 = .ok (.aload_n 0, 1) := by decide +kernel
theorem dX7_readClause_12 : decode cX7_readClause 12 = .ok (.getfield 22, 3) := by decide +kernel
theorem dX7_readClause_15 : decode cX7_readClause 15 = .ok (.ifCond .ne 27, 3) := by decide +kernel
theorem dX7_readClause_18 : decode cX7_readClause 18 = .ok (.aload_n 0, 1) := by decide +kernel
theorem dX7_readClause_19 : decode cX7_readClause 19 = .ok (.iconst 1, 1) := by decide +kernel
theorem dX7_readClause_20 : decode cX7_readClause 20 = .ok (.putfield 22, 3) := by decide +kernel
theorem dX7_readClause_23 : decode cX7_readClause 23 = .ok (.aload_n 1, 1) := by decide +kernel
theorem dX7_readClause_24 : decode cX7_readClause 24 = .ok (.invokevirtual 40, 3) := by decide +kernel
theorem dX7_readClause_27 : decode cX7_readClause 27 = .ok (.aload_n 1, 1) := by decide +kernel
theorem dX7_readClause_28 : decode cX7_readClause 28 = .ok (.ldc 43, 2) := by decide +kernel
theorem dX7_readClause_30 : decode cX7_readClause 30 = .ok (.getstatic 45, 3) := by decide +kernel
theorem dX7_readClause_33 : decode cX7_readClause 33 = .ok (.aload_n 0, 1) := by decide +kernel
theorem dX7_readClause_34 : decode cX7_readClause 34 = .ok (.getfield 9, 3) := by decide +kernel
theorem dX7_readClause_37 : decode cX7_readClause 37 = .ok (.iconst 0, 1) := by decide +kernel
theorem dX7_readClause_38 : decode cX7_readClause 38 = .ok (.invokestatic 48, 3) := by decide +kernel
theorem dX7_readClause_41 : decode cX7_readClause 41 = .ok (.ireturn, 1) := by decide +kernel
theorem dX7_readClause_42 : decode cX7_readClause 42 = .ok (.iload_n 2, 1) := by decide +kernel
theorem dX7_readClause_43 : decode cX7_readClause 43 = .ok (.bipush 104, 2) := by decide +kernel
theorem dX7_readClause_45 : decode cX7_readClause 45 = .ok (.if_icmp .ne 64, 3) := by decide +kernel
theorem dX7_readClause_48 : decode cX7_readClause 48 = .ok (.aload_n 0, 1) := by decide +kernel
theorem dX7_readClause_49 : decode cX7_readClause 49 = .ok (.getfield 18, 3) := by decide +kernel
theorem dX7_readClause_52 : decode cX7_readClause 52 = .ok (.iconst 4, 1) := by decide +kernel
theorem dX7_readClause_53 : decode cX7_readClause 53 = .ok (.if_icmp .ge 56, 3) := by decide +kernel
theorem dX7_readClause_56 : decode cX7_readClause 56 = .ok (.iconst 2, 1) := by decide +kernel
theorem dX7_readClause_57 : decode cX7_readClause 57 = .ok (.aload_n 0, 1) := by decide +kernel
theorem dX7_readClause_58 : decode cX7_readClause 58 = .ok (.getfield 18, 3) := by decide +kernel
theorem dX7_readClause_61 : decode cX7_readClause 61 = .ok (.imul, 1) := by decide +kernel
theorem dX7_readClause_62 : decode cX7_readClause 62 = .ok (.istore_n 3, 1) := by decide +kernel
theorem dX7_readClause_63 : decode cX7_readClause 63 = .ok (.aload_n 0, 1) := by decide +kernel
theorem dX7_readClause_64 : decode cX7_readClause 64 = .ok (.getfield 15, 3) := by decide +kernel
theorem dX7_readClause_67 : decode cX7_readClause 67 = .ok (.iload_n 3, 1) := by decide +kernel
theorem dX7_readClause_68 : decode cX7_readClause 68 = .ok (.bipush 6, 2) := by decide +kernel
theorem dX7_readClause_70 : decode cX7_readClause 70 = .ok (.iastore, 1) := by decide +kernel
theorem dX7_readClause_71 : decode cX7_readClause 71 = .ok (.aload_n 0, 1) := by decide +kernel
theorem dX7_readClause_72 : decode cX7_readClause 72 = .ok (.getfield 15, 3) := by decide +kernel
theorem dX7_readClause_75 : decode cX7_readClause 75 = .ok (.iload_n 3, 1) := by decide +kernel
theorem dX7_readClause_76 : decode cX7_readClause 76 = .ok (.iconst 1, 1) := by decide +kernel
theorem dX7_readClause_77 : decode cX7_readClause 77 = .ok (.iadd, 1) := by decide +kernel
theorem dX7_readClause_78 : decode cX7_readClause 78 = .ok (.iconst 1, 1) := by decide +kernel
theorem dX7_readClause_79 : decode cX7_readClause 79 = .ok (.iastore, 1) := by decide +kernel
theorem dX7_readClause_80 : decode cX7_readClause 80 = .ok (.aload_n 0, 1) := by decide +kernel
theorem dX7_readClause_81 : decode cX7_readClause 81 = .ok (.dup, 1) := by decide +kernel
theorem dX7_readClause_82 : decode cX7_readClause 82 = .ok (.getfield 18, 3) := by decide +kernel
theorem dX7_readClause_85 : decode cX7_readClause 85 = .ok (.iconst 1, 1) := by decide +kernel
theorem dX7_readClause_86 : decode cX7_readClause 86 = .ok (.iadd, 1) := by decide +kernel
theorem dX7_readClause_87 : decode cX7_readClause 87 = .ok (.putfield 18, 3) := by decide +kernel
theorem dX7_readClause_90 : decode cX7_readClause 90 = .ok (.aload_n 1, 1) := by decide +kernel
theorem dX7_readClause_91 : decode cX7_readClause 91 = .ok (.invokevirtual 40, 3) := by decide +kernel
theorem dX7_readClause_94 : decode cX7_readClause 94 = .ok (.aload_n 1, 1) := by decide +kernel
theorem dX7_readClause_95 : decode cX7_readClause 95 = .ok (.ldc 52, 2) := by decide +kernel
theorem dX7_readClause_97 : decode cX7_readClause 97 = .ok (.getstatic 54, 3) := by decide +kernel
theorem dX7_readClause_100 : decode cX7_readClause 100 = .ok (.aload_n 0, 1) := by decide +kernel
theorem dX7_readClause_101 : decode cX7_readClause 101 = .ok (.getfield 15, 3) := by decide +kernel
theorem dX7_readClause_104 : decode cX7_readClause 104 = .ok (.iload_n 3, 1) := by decide +kernel
theorem dX7_readClause_105 : decode cX7_readClause 105 = .ok (.invokestatic 48, 3) := by decide +kernel
theorem dX7_readClause_108 : decode cX7_readClause 108 = .ok (.ireturn, 1) := by decide +kernel
theorem dX7_readClause_109 : decode cX7_readClause 109 = .ok (.iconst 0, 1) := by decide +kernel
theorem dX7_readClause_110 : decode cX7_readClause 110 = .ok (.ireturn, 1) := by decide +kernel
set_option maxRecDepth 20000 in
def kX7_readClause_0 (g : sk_G) (d ck sk : Nat) (Q : sk_P) : sk_K := o_aload 1 (o_invB (g, d, ck, sk, xX7_readClause, Q) xX9_peek 0 9 0 0 (o_istore 2 (o_iload 2 (o_i (115) (o_icne (sk_B (g, d, ck, sk, xX7_readClause, Q) 42) (o_aload 0 (o_getf 7 3 (o_ifne (sk_B (g, d, ck, sk, xX7_readClause, Q) 42) (o_aload 0 (o_i (1) (o_putz 7 3 (o_aload 1 (o_invT (g, d, ck, sk, xX7_readClause, Q) 1 0 9 (fun Q => kX9_step_0 g (d - 1) 0 0 Q) (o_aload 1 (o_lds (g, d, ck, sk, xX7_readClause, Q) 0 (o_gets (g, d, ck, sk, xX7_readClause, Q) 0 (o_aload 0 (o_getf 7 0 (o_i (0) (o_stcB (g, d, ck, sk, xX7_readClause, Q) xX7_readItems 5 0 0 (o_zret (g, d, ck, sk, xX7_readClause, Q))))))))))))))))))))))
set_option maxRecDepth 20000 in
theorem tX7_readClause_0 {g : sk_G} {d ck sk : Nat} {Q : sk_P} : sk_S (g, d, ck, sk, xX7_readClause, Q) 0 (kX7_readClause_0 g d ck sk Q) := s_aload_n dX7_readClause_0 rfl (s_invB (w' := (g, d, ck, sk, xX7_readClause, Q)) (ci := 9) (ck := 0) (sk := 0) (T := TX9) (N := 3) dX7_readClause_1 m_X9_peek rfl (by decide) qm_X7_30 qi_X9_peek qe_X9_peek rfl (s_istore_n dX7_readClause_4 rfl (by decide : 2 < 4) (s_iload_n dX7_readClause_5 rfl (s_bipush dX7_readClause_6 rfl (s_icne (tgt := 42) dX7_readClause_8 (by decide) (sk_id) (s_aload_n dX7_readClause_11 rfl (s_getf (ci := 7) (j := 3) (C := RX7) (T := TX7) (N := 4) dX7_readClause_12 rfl (by decide) (by decide) qf_X7_22 (s_ifne (tgt := 42) dX7_readClause_15 (by decide) (sk_id) (s_aload_n dX7_readClause_18 rfl (s_iconst dX7_readClause_19 (s_putz (ci := 7) (j := 3) (C := RX7) (T := TX7) (N := 4) dX7_readClause_20 rfl (by decide) (by decide) rfl (tyX7_ok 3 (by decide)) qf_X7_22 (s_aload_n dX7_readClause_23 rfl (s_invT (X := xX9_step) (ci := 9) (T := TX9) (N := 3) (K := (fun Q => kX9_step_0 g (d - 1) 0 0 Q)) (fun _ => tX9_step_0) rfl dX7_readClause_24 m_X9_step rfl (by decide) qm_X7_40 qi_X9_step qe_X9_step (s_aload_n dX7_readClause_27 rfl (s_lds dX7_readClause_28 (i := 0) (by decide) rfl rfl (s_gets dX7_readClause_30 (q := 0) (by decide) qf_X7_45 (s_aload_n dX7_readClause_33 rfl (s_getf (ci := 7) (j := 0) (C := RX7) (T := TX7) (N := 4) dX7_readClause_34 rfl (by decide) (by decide) qf_X7_9 (s_iconst dX7_readClause_37 (s_stcB (w' := (g, d, ck, sk, xX7_readClause, Q)) (ck := 0) (sk := 0) dX7_readClause_38 m_X7_readItems qm_X7_48 qs_X7_readItems rfl (s_zret dX7_readClause_41 rfl)))))))))))))))))))))
set_option maxRecDepth 20000 in
def kX7_readClause_42 (g : sk_G) (d ck sk : Nat) (Q : sk_P) : sk_K := o_iload 2 (o_i (104) (o_icne (o_i (0) (o_zret (g, d, ck, sk, xX7_readClause, Q))) (o_aload 0 (o_getf 7 2 (o_i (4) (o_icge (o_i (0) (o_zret (g, d, ck, sk, xX7_readClause, Q))) (o_i (2) (o_aload 0 (o_getf 7 2 (o_imul (o_istore 3 (o_aload 0 (o_getf 7 1 (o_iload 3 (o_i (6) (o_iastore (o_aload 0 (o_getf 7 1 (o_iload 3 (o_i (1) (o_iadd (o_i (1) (o_iastore (o_aload 0 (o_dup (o_getf 7 2 (o_i (1) (o_iadd (o_puti 7 2 (o_aload 1 (o_invT (g, d, ck, sk, xX7_readClause, Q) 1 0 9 (fun Q => kX9_step_0 g (d - 1) 0 0 Q) (o_aload 1 (o_lds (g, d, ck, sk, xX7_readClause, Q) 1 (o_gets (g, d, ck, sk, xX7_readClause, Q) 1 (o_aload 0 (o_getf 7 1 (o_iload 3 (o_stcB (g, d, ck, sk, xX7_readClause, Q) xX7_readItems 5 0 0 (o_zret (g, d, ck, sk, xX7_readClause, Q))))))))))))))))))))))))))))))))))))))))
set_option maxRecDepth 20000 in
theorem tX7_readClause_42 {g : sk_G} {d ck sk : Nat} {Q : sk_P} : sk_S (g, d, ck, sk, xX7_readClause, Q) 42 (kX7_readClause_42 g d ck sk Q) := s_iload_n dX7_readClause_42 rfl (s_bipush dX7_readClause_43 rfl (s_icne (tgt := 109) dX7_readClause_45 (by decide) (s_iconst dX7_readClause_109 (s_zret dX7_readClause_110 rfl)) (s_aload_n dX7_readClause_48 rfl (s_getf (ci := 7) (j := 2) (C := RX7) (T := TX7) (N := 4) dX7_readClause_49 rfl (by decide) (by decide) qf_X7_18 (s_iconst dX7_readClause_52 (s_icge (tgt := 109) dX7_readClause_53 (by decide) (s_iconst dX7_readClause_109 (s_zret dX7_readClause_110 rfl)) (s_iconst dX7_readClause_56 (s_aload_n dX7_readClause_57 rfl (s_getf (ci := 7) (j := 2) (C := RX7) (T := TX7) (N := 4) dX7_readClause_58 rfl (by decide) (by decide) qf_X7_18 (s_imul dX7_readClause_61 (s_istore_n dX7_readClause_62 rfl (by decide : 3 < 4) (s_aload_n dX7_readClause_63 rfl (s_getf (ci := 7) (j := 1) (C := RX7) (T := TX7) (N := 4) dX7_readClause_64 rfl (by decide) (by decide) qf_X7_15 (s_iload_n dX7_readClause_67 rfl (s_bipush dX7_readClause_68 rfl (s_iastore dX7_readClause_70 (s_aload_n dX7_readClause_71 rfl (s_getf (ci := 7) (j := 1) (C := RX7) (T := TX7) (N := 4) dX7_readClause_72 rfl (by decide) (by decide) qf_X7_15 (s_iload_n dX7_readClause_75 rfl (s_iconst dX7_readClause_76 (s_iadd dX7_readClause_77 (s_iconst dX7_readClause_78 (s_iastore dX7_readClause_79 (s_aload_n dX7_readClause_80 rfl (s_dup dX7_readClause_81 (s_getf (ci := 7) (j := 2) (C := RX7) (T := TX7) (N := 4) dX7_readClause_82 rfl (by decide) (by decide) qf_X7_18 (s_iconst dX7_readClause_85 (s_iadd dX7_readClause_86 (s_puti (ci := 7) (j := 2) (C := RX7) (T := TX7) (N := 4) dX7_readClause_87 rfl (by decide) (by decide) rfl (tyX7_ok 2 (by decide)) qf_X7_18 (s_aload_n dX7_readClause_90 rfl (s_invT (X := xX9_step) (ci := 9) (T := TX9) (N := 3) (K := (fun Q => kX9_step_0 g (d - 1) 0 0 Q)) (fun _ => tX9_step_0) rfl dX7_readClause_91 m_X9_step rfl (by decide) qm_X7_40 qi_X9_step qe_X9_step (s_aload_n dX7_readClause_94 rfl (s_lds dX7_readClause_95 (i := 1) (by decide) rfl rfl (s_gets dX7_readClause_97 (q := 1) (by decide) qf_X7_54 (s_aload_n dX7_readClause_100 rfl (s_getf (ci := 7) (j := 1) (C := RX7) (T := TX7) (N := 4) dX7_readClause_101 rfl (by decide) (by decide) qf_X7_15 (s_iload_n dX7_readClause_104 rfl (s_stcB (w' := (g, d, ck, sk, xX7_readClause, Q)) (ck := 0) (sk := 0) dX7_readClause_105 m_X7_readItems qm_X7_48 qs_X7_readItems rfl (s_zret dX7_readClause_108 rfl)))))))))))))))))))))))))))))))))))))))
theorem dX7_readItems_0 : decode cX7_readItems 0 = .ok (.iconst 0, 1) := by decide +kernel
theorem dX7_readItems_1 : decode cX7_readItems 1 = .ok (.istore 5, 2) := by decide +kernel
theorem dX7_readItems_3 : decode cX7_readItems 3 = .ok (.iconst 0, 1) := by decide +kernel
theorem dX7_readItems_4 : decode cX7_readItems 4 = .ok (.istore 6, 2) := by decide +kernel
theorem dX7_readItems_6 : decode cX7_readItems 6 = .ok (.iload 6, 2) := by decide +kernel
theorem dX7_readItems_8 : decode cX7_readItems 8 = .ok (.aload_n 1, 1) := by decide +kernel
theorem dX7_readItems_9 : decode cX7_readItems 9 = .ok (.invokevirtual 57, 3) := by decide +kernel
theorem dX7_readItems_12 : decode cX7_readItems 12 = .ok (.if_icmp .ge 84, 3) := by decide +kernel
theorem dX7_readItems_15 : decode cX7_readItems 15 = .ok (.aload_n 0, 1) := by decide +kernel
theorem dX7_readItems_16 : decode cX7_readItems 16 = .ok (.aload_n 1, 1) := by decide +kernel
theorem dX7_readItems_17 : decode cX7_readItems 17 = .ok (.invokevirtual 62, 3) := by decide +kernel
theorem dX7_readItems_20 : decode cX7_readItems 20 = .ok (.istore 7, 2) := by decide +kernel
theorem dX7_readItems_22 : decode cX7_readItems 22 = .ok (.iload 7, 2) := by decide +kernel
theorem dX7_readItems_24 : decode cX7_readItems 24 = .ok (.ifCond .lt 14, 3) := by decide +kernel
theorem dX7_readItems_27 : decode cX7_readItems 27 = .ok (.iload 5, 2) := by decide +kernel
theorem dX7_readItems_29 : decode cX7_readItems 29 = .ok (.iload 7, 2) := by decide +kernel
theorem dX7_readItems_31 : decode cX7_readItems 31 = .ok (.ishr, 1) := by decide +kernel
theorem dX7_readItems_32 : decode cX7_readItems 32 = .ok (.iconst 1, 1) := by decide +kernel
theorem dX7_readItems_33 : decode cX7_readItems 33 = .ok (.iand, 1) := by decide +kernel
theorem dX7_readItems_34 : decode cX7_readItems 34 = .ok (.iconst 1, 1) := by decide +kernel
theorem dX7_readItems_35 : decode cX7_readItems 35 = .ok (.if_icmp .ne 5, 3) := by decide +kernel
theorem dX7_readItems_38 : decode cX7_readItems 38 = .ok (.iconst 1, 1) := by decide +kernel
theorem dX7_readItems_39 : decode cX7_readItems 39 = .ok (.ireturn, 1) := by decide +kernel
theorem dX7_readItems_40 : decode cX7_readItems 40 = .ok (.iload 5, 2) := by decide +kernel
theorem dX7_readItems_42 : decode cX7_readItems 42 = .ok (.iconst 1, 1) := by decide +kernel
theorem dX7_readItems_43 : decode cX7_readItems 43 = .ok (.iload 7, 2) := by decide +kernel
theorem dX7_readItems_45 : decode cX7_readItems 45 = .ok (.ishl, 1) := by decide +kernel
theorem dX7_readItems_46 : decode cX7_readItems 46 = .ok (.ior, 1) := by decide +kernel
theorem dX7_readItems_47 : decode cX7_readItems 47 = .ok (.istore 5, 2) := by decide +kernel
theorem dX7_readItems_49 : decode cX7_readItems 49 = .ok (.aload_n 0, 1) := by decide +kernel
theorem dX7_readItems_50 : decode cX7_readItems 50 = .ok (.invokevirtual 40, 3) := by decide +kernel
theorem dX7_readItems_53 : decode cX7_readItems 53 = .ok (.aload_n 0, 1) := by decide +kernel
theorem dX7_readItems_54 : decode cX7_readItems 54 = .ok (.aload_n 2, 1) := by decide +kernel
theorem dX7_readItems_55 : decode cX7_readItems 55 = .ok (.iconst 2, 1) := by decide +kernel
theorem dX7_readItems_56 : decode cX7_readItems 56 = .ok (.iload 7, 2) := by decide +kernel
theorem dX7_readItems_58 : decode cX7_readItems 58 = .ok (.imul, 1) := by decide +kernel
theorem dX7_readItems_59 : decode cX7_readItems 59 = .ok (.iaload, 1) := by decide +kernel
theorem dX7_readItems_60 : decode cX7_readItems 60 = .ok (.aload_n 2, 1) := by decide +kernel
theorem dX7_readItems_61 : decode cX7_readItems 61 = .ok (.iconst 2, 1) := by decide +kernel
theorem dX7_readItems_62 : decode cX7_readItems 62 = .ok (.iload 7, 2) := by decide +kernel
theorem dX7_readItems_64 : decode cX7_readItems 64 = .ok (.imul, 1) := by decide +kernel
theorem dX7_readItems_65 : decode cX7_readItems 65 = .ok (.iconst 1, 1) := by decide +kernel
theorem dX7_readItems_66 : decode cX7_readItems 66 = .ok (.iadd, 1) := by decide +kernel
theorem dX7_readItems_67 : decode cX7_readItems 67 = .ok (.iaload, 1) := by decide +kernel
theorem dX7_readItems_68 : decode cX7_readItems 68 = .ok (.invokestatic 66, 3) := by decide +kernel
theorem dX7_readItems_71 : decode cX7_readItems 71 = .ok (.istore 8, 2) := by decide +kernel
theorem dX7_readItems_73 : decode cX7_readItems 73 = .ok (.iload 8, 2) := by decide +kernel
theorem dX7_readItems_75 : decode cX7_readItems 75 = .ok (.iconst (-1), 1) := by decide +kernel
theorem dX7_readItems_76 : decode cX7_readItems 76 = .ok (.if_icmp .ne 5, 3) := by decide +kernel
theorem dX7_readItems_79 : decode cX7_readItems 79 = .ok (.iconst 0, 1) := by decide +kernel
theorem dX7_readItems_80 : decode cX7_readItems 80 = .ok (.ireturn, 1) := by decide +kernel
theorem dX7_readItems_81 : decode cX7_readItems 81 = .ok (.aload_n 3, 1) := by decide +kernel
theorem dX7_readItems_82 : decode cX7_readItems 82 = .ok (.iload 4, 2) := by decide +kernel
theorem dX7_readItems_84 : decode cX7_readItems 84 = .ok (.iload 7, 2) := by decide +kernel
theorem dX7_readItems_86 : decode cX7_readItems 86 = .ok (.iadd, 1) := by decide +kernel
theorem dX7_readItems_87 : decode cX7_readItems 87 = .ok (.iload 8, 2) := by decide +kernel
theorem dX7_readItems_89 : decode cX7_readItems 89 = .ok (.iastore, 1) := by decide +kernel
theorem dX7_readItems_90 : decode cX7_readItems 90 = .ok (.iinc 6 1, 3) := by decide +kernel
theorem dX7_readItems_93 : decode cX7_readItems 93 = .ok (.goto (-87), 3) := by decide +kernel
theorem dX7_readItems_96 : decode cX7_readItems 96 = .ok (.iconst 1, 1) := by decide +kernel
theorem dX7_readItems_97 : decode cX7_readItems 97 = .ok (.ireturn, 1) := by decide +kernel
def kX7_readItems_0 (g : sk_G) (d ck sk : Nat) (Q : sk_P) : sk_K := o_i (0) (o_istore 5 (o_i (0) (o_istore 6 (sk_B (g, d, ck, sk, xX7_readItems, Q) 6))))
theorem tX7_readItems_0 {g : sk_G} {d ck sk : Nat} {Q : sk_P} : sk_S (g, d, ck, sk, xX7_readItems, Q) 0 (kX7_readItems_0 g d ck sk Q) := s_iconst dX7_readItems_0 (s_istore dX7_readItems_1 (by decide : 5 < 9) (s_iconst dX7_readItems_3 (s_istore dX7_readItems_4 (by decide : 6 < 9) (sk_id))))
set_option maxRecDepth 20000 in
def kX7_readItems_6 (g : sk_G) (d ck sk : Nat) (Q : sk_P) : sk_K := o_iload 6 (o_aload 1 (o_slen (g, d, ck, sk, xX7_readItems, Q) (o_icge (o_i (1) (o_zret (g, d, ck, sk, xX7_readItems, Q))) (o_aload 0 (o_aload 1 (o_invB (g, d, ck, sk, xX7_readItems, Q) xX9_peekAmong 1 9 0 0 (o_istore 7 (o_iload 7 (o_iflt (o_i (1) (o_zret (g, d, ck, sk, xX7_readItems, Q))) (o_iload 5 (o_iload 7 (o_ishr (o_i (1) (o_iand (o_i (1) (o_icne (o_iload 5 (o_i (1) (o_iload 7 (o_ishl (o_ior (o_istore 5 (o_aload 0 (o_invT (g, d, ck, sk, xX7_readItems, Q) 1 0 9 (fun Q => kX9_step_0 g (d - 1) 0 0 Q) (o_aload 0 (o_aload 2 (o_i (2) (o_iload 7 (o_imul (o_iaload (o_aload 2 (o_i (2) (o_iload 7 (o_imul (o_i (1) (o_iadd (o_iaload (o_stcB (g, d, ck, sk, xX7_readItems, Q) xX7_readNumber 3 0 0 (o_istore 8 (o_iload 8 (o_i (-1) (o_icne (o_aload 3 (o_iload 4 (o_iload 7 (o_iadd (o_iload 8 (o_iastore (o_iinc 6 (1) (sk_B (g, d, ck, sk, xX7_readItems, Q) 6)))))))) (o_i (0) (o_zret (g, d, ck, sk, xX7_readItems, Q))))))))))))))))))))))))))))) (o_i (1) (o_zret (g, d, ck, sk, xX7_readItems, Q)))))))))))))))))))
set_option maxRecDepth 20000 in
theorem tX7_readItems_6 {g : sk_G} {d ck sk : Nat} {Q : sk_P} : sk_S (g, d, ck, sk, xX7_readItems, Q) 6 (kX7_readItems_6 g d ck sk Q) := s_iload dX7_readItems_6 (s_aload_n dX7_readItems_8 rfl (s_slen dX7_readItems_9 qm_X7_57 (s_icge (tgt := 96) dX7_readItems_12 (by decide) (s_iconst dX7_readItems_96 (s_zret dX7_readItems_97 rfl)) (s_aload_n dX7_readItems_15 rfl (s_aload_n dX7_readItems_16 rfl (s_invB (w' := (g, d, ck, sk, xX7_readItems, Q)) (ci := 9) (ck := 0) (sk := 0) (T := TX9) (N := 3) dX7_readItems_17 m_X9_peekAmong rfl (by decide) qm_X7_62 qi_X9_peekAmong qe_X9_peekAmong rfl (s_istore dX7_readItems_20 (by decide : 7 < 9) (s_iload dX7_readItems_22 (s_iflt (tgt := 38) dX7_readItems_24 (by decide) (s_iconst dX7_readItems_38 (s_zret dX7_readItems_39 rfl)) (s_iload dX7_readItems_27 (s_iload dX7_readItems_29 (s_ishr dX7_readItems_31 (s_iconst dX7_readItems_32 (s_iand dX7_readItems_33 (s_iconst dX7_readItems_34 (s_icne (tgt := 40) dX7_readItems_35 (by decide) (s_iload dX7_readItems_40 (s_iconst dX7_readItems_42 (s_iload dX7_readItems_43 (s_ishl dX7_readItems_45 (s_ior dX7_readItems_46 (s_istore dX7_readItems_47 (by decide : 5 < 9) (s_aload_n dX7_readItems_49 rfl (s_invT (X := xX9_step) (ci := 9) (T := TX9) (N := 3) (K := (fun Q => kX9_step_0 g (d - 1) 0 0 Q)) (fun _ => tX9_step_0) rfl dX7_readItems_50 m_X9_step rfl (by decide) qm_X7_40 qi_X9_step qe_X9_step (s_aload_n dX7_readItems_53 rfl (s_aload_n dX7_readItems_54 rfl (s_iconst dX7_readItems_55 (s_iload dX7_readItems_56 (s_imul dX7_readItems_58 (s_iaload dX7_readItems_59 (s_aload_n dX7_readItems_60 rfl (s_iconst dX7_readItems_61 (s_iload dX7_readItems_62 (s_imul dX7_readItems_64 (s_iconst dX7_readItems_65 (s_iadd dX7_readItems_66 (s_iaload dX7_readItems_67 (s_stcB (w' := (g, d, ck, sk, xX7_readItems, Q)) (ck := 0) (sk := 0) dX7_readItems_68 m_X7_readNumber qm_X7_66 qs_X7_readNumber rfl (s_istore dX7_readItems_71 (by decide : 8 < 9) (s_iload dX7_readItems_73 (s_iconst dX7_readItems_75 (s_icne (tgt := 81) dX7_readItems_76 (by decide) (s_aload_n dX7_readItems_81 rfl (s_iload dX7_readItems_82 (s_iload dX7_readItems_84 (s_iadd dX7_readItems_86 (s_iload dX7_readItems_87 (s_iastore dX7_readItems_89 (s_iinc dX7_readItems_90 (by decide : 6 < 9) (s_goto (tgt := 6) dX7_readItems_93 (by decide) (sk_id))))))))) (s_iconst dX7_readItems_79 (s_zret dX7_readItems_80 rfl)))))))))))))))))))))))))))) (s_iconst dX7_readItems_38 (s_zret dX7_readItems_39 rfl))))))))))))))))))
theorem dX7_readNumber_0 : decode cX7_readNumber 0 = .ok (.aload_n 0, 1) := by decide +kernel
theorem dX7_readNumber_1 : decode cX7_readNumber 1 = .ok (.iconst 2, 1) := by decide +kernel
theorem dX7_readNumber_2 : decode cX7_readNumber 2 = .ok (.invokevirtual 70, 3) := by decide +kernel
theorem dX7_readNumber_5 : decode cX7_readNumber 5 = .ok (.istore_n 3, 1) := by decide +kernel
theorem dX7_readNumber_6 : decode cX7_readNumber 6 = .ok (.iload_n 3, 1) := by decide +kernel
theorem dX7_readNumber_7 : decode cX7_readNumber 7 = .ok (.iconst (-1), 1) := by decide +kernel
theorem dX7_readNumber_8 : decode cX7_readNumber 8 = .ok (.if_icmp .eq 19, 3) := by decide +kernel
theorem dX7_readNumber_11 : decode cX7_readNumber 11 = .ok (.iload_n 3, 1) := by decide +kernel
theorem dX7_readNumber_12 : decode cX7_readNumber 12 = .ok (.iload_n 1, 1) := by decide +kernel
theorem dX7_readNumber_13 : decode cX7_readNumber 13 = .ok (.if_icmp .lt 8, 3) := by decide +kernel
theorem dX7_readNumber_16 : decode cX7_readNumber 16 = .ok (.iload_n 3, 1) := by decide +kernel
theorem dX7_readNumber_17 : decode cX7_readNumber 17 = .ok (.iload_n 2, 1) := by decide +kernel
theorem dX7_readNumber_18 : decode cX7_readNumber 18 = .ok (.if_icmp .le 9, 3) := by decide +kernel
theorem dX7_readNumber_21 : decode cX7_readNumber 21 = .ok (.aload_n 0, 1) := by decide +kernel
theorem dX7_readNumber_22 : decode cX7_readNumber 22 = .ok (.invokevirtual 74, 3) := by decide +kernel
theorem dX7_readNumber_25 : decode cX7_readNumber 25 = .ok (.iconst (-1), 1) := by decide +kernel
theorem dX7_readNumber_26 : decode cX7_readNumber 26 = .ok (.ireturn, 1) := by decide +kernel
theorem dX7_readNumber_27 : decode cX7_readNumber 27 = .ok (.iload_n 3, 1) := by decide +kernel
theorem dX7_readNumber_28 : decode cX7_readNumber 28 = .ok (.ireturn, 1) := by decide +kernel
set_option maxRecDepth 20000 in
def kX7_readNumber_0 (g : sk_G) (d ck sk : Nat) (Q : sk_P) : sk_K := o_aload 0 (o_i (2) (o_invB (g, d, ck, sk, xX7_readNumber, Q) xX9_number 1 9 0 0 (o_istore 3 (o_iload 3 (o_i (-1) (o_iceq (o_iload 3 (o_iret (g, d, ck, sk, xX7_readNumber, Q))) (o_iload 3 (o_iload 1 (o_iclt (o_aload 0 (o_invT (g, d, ck, sk, xX7_readNumber, Q) 1 0 9 (fun Q => kX9_stepBack_0 g (d - 1) 0 0 Q) (o_i (-1) (o_iret (g, d, ck, sk, xX7_readNumber, Q))))) (o_iload 3 (o_iload 2 (o_icle (o_iload 3 (o_iret (g, d, ck, sk, xX7_readNumber, Q))) (o_aload 0 (o_invT (g, d, ck, sk, xX7_readNumber, Q) 1 0 9 (fun Q => kX9_stepBack_0 g (d - 1) 0 0 Q) (o_i (-1) (o_iret (g, d, ck, sk, xX7_readNumber, Q)))))))))))))))))
set_option maxRecDepth 20000 in
theorem tX7_readNumber_0 {g : sk_G} {d ck sk : Nat} {Q : sk_P} : sk_S (g, d, ck, sk, xX7_readNumber, Q) 0 (kX7_readNumber_0 g d ck sk Q) := s_aload_n dX7_readNumber_0 rfl (s_iconst dX7_readNumber_1 (s_invB (w' := (g, d, ck, sk, xX7_readNumber, Q)) (ci := 9) (ck := 0) (sk := 0) (T := TX9) (N := 3) dX7_readNumber_2 m_X9_number rfl (by decide) qm_X7_70 qi_X9_number qe_X9_number rfl (s_istore_n dX7_readNumber_5 rfl (by decide : 3 < 4) (s_iload_n dX7_readNumber_6 rfl (s_iconst dX7_readNumber_7 (s_iceq (tgt := 27) dX7_readNumber_8 (by decide) (s_iload_n dX7_readNumber_27 rfl (s_iret dX7_readNumber_28 rfl)) (s_iload_n dX7_readNumber_11 rfl (s_iload_n dX7_readNumber_12 rfl (s_iclt (tgt := 21) dX7_readNumber_13 (by decide) (s_aload_n dX7_readNumber_21 rfl (s_invT (X := xX9_stepBack) (ci := 9) (T := TX9) (N := 3) (K := (fun Q => kX9_stepBack_0 g (d - 1) 0 0 Q)) (fun _ => tX9_stepBack_0) rfl dX7_readNumber_22 m_X9_stepBack rfl (by decide) qm_X7_74 qi_X9_stepBack qe_X9_stepBack (s_iconst dX7_readNumber_25 (s_iret dX7_readNumber_26 rfl)))) (s_iload_n dX7_readNumber_16 rfl (s_iload_n dX7_readNumber_17 rfl (s_icle (tgt := 27) dX7_readNumber_18 (by decide) (s_iload_n dX7_readNumber_27 rfl (s_iret dX7_readNumber_28 rfl)) (s_aload_n dX7_readNumber_21 rfl (s_invT (X := xX9_stepBack) (ci := 9) (T := TX9) (N := 3) (K := (fun Q => kX9_stepBack_0 g (d - 1) 0 0 Q)) (fun _ => tX9_stepBack_0) rfl dX7_readNumber_22 m_X9_stepBack rfl (by decide) qm_X7_74 qi_X9_stepBack qe_X9_stepBack (s_iconst dX7_readNumber_25 (s_iret dX7_readNumber_26 rfl))))))))))))))))
theorem dX7_does_0 : decode cX7_does 0 = .ok (.aload_n 1, 1) := by decide +kernel
theorem dX7_does_1 : decode cX7_does 1 = .ok (.ifnull 15, 3) := by decide +kernel
theorem dX7_does_4 : decode cX7_does 4 = .ok (.iload_n 2, 1) := by decide +kernel
theorem dX7_does_5 : decode cX7_does 5 = .ok (.ifCond .lt 11, 3) := by decide +kernel
theorem dX7_does_8 : decode cX7_does 8 = .ok (.iload_n 2, 1) := by decide +kernel
theorem dX7_does_9 : decode cX7_does 9 = .ok (.aload_n 0, 1) := by decide +kernel
theorem dX7_does_10 : decode cX7_does 10 = .ok (.invokevirtual 95, 3) := by decide +kernel
theorem dX7_does_13 : decode cX7_does 13 = .ok (.if_icmp .lt 5, 3) := by decide +kernel
theorem dX7_does_16 : decode cX7_does 16 = .ok (.iconst 0, 1) := by decide +kernel
theorem dX7_does_17 : decode cX7_does 17 = .ok (.ireturn, 1) := by decide +kernel
theorem dX7_does_18 : decode cX7_does 18 = .ok (.iload_n 2, 1) := by decide +kernel
theorem dX7_does_19 : decode cX7_does 19 = .ok (.iconst 4, 1) := by decide +kernel
theorem dX7_does_20 : decode cX7_does 20 = .ok (.irem, 1) := by decide +kernel
theorem dX7_does_21 : decode cX7_does 21 = .ok (.istore_n 3, 1) := by decide +kernel
theorem dX7_does_22 : decode cX7_does 22 = .ok (.aload_n 1, 1) := by decide +kernel
theorem dX7_does_23 : decode cX7_does 23 = .ok (.getfield 98, 3) := by decide +kernel
theorem dX7_does_26 : decode cX7_does 26 = .ok (.iconst 1, 1) := by decide +kernel
theorem dX7_does_27 : decode cX7_does 27 = .ok (.isub, 1) := by decide +kernel
theorem dX7_does_28 : decode cX7_does 28 = .ok (.istore 4, 2) := by decide +kernel
theorem dX7_does_30 : decode cX7_does 30 = .ok (.aload_n 1, 1) := by decide +kernel
theorem dX7_does_31 : decode cX7_does 31 = .ok (.getfield 103, 3) := by decide +kernel
theorem dX7_does_34 : decode cX7_does 34 = .ok (.iconst 1, 1) := by decide +kernel
theorem dX7_does_35 : decode cX7_does 35 = .ok (.isub, 1) := by decide +kernel
theorem dX7_does_36 : decode cX7_does 36 = .ok (.istore 5, 2) := by decide +kernel
theorem dX7_does_38 : decode cX7_does 38 = .ok (.aload_n 0, 1) := by decide +kernel
theorem dX7_does_39 : decode cX7_does 39 = .ok (.iload_n 2, 1) := by decide +kernel
theorem dX7_does_40 : decode cX7_does 40 = .ok (.iconst 4, 1) := by decide +kernel
theorem dX7_does_41 : decode cX7_does 41 = .ok (.idiv, 1) := by decide +kernel
theorem dX7_does_42 : decode cX7_does 42 = .ok (.invokevirtual 89, 3) := by decide +kernel
theorem dX7_does_45 : decode cX7_does 45 = .ok (.iload 4, 2) := by decide +kernel
theorem dX7_does_47 : decode cX7_does 47 = .ok (.getstatic 106, 3) := by decide +kernel
theorem dX7_does_50 : decode cX7_does 50 = .ok (.iload_n 3, 1) := by decide +kernel
theorem dX7_does_51 : decode cX7_does 51 = .ok (.iaload, 1) := by decide +kernel
theorem dX7_does_52 : decode cX7_does 52 = .ok (.imul, 1) := by decide +kernel
theorem dX7_does_53 : decode cX7_does 53 = .ok (.iadd, 1) := by decide +kernel
theorem dX7_does_54 : decode cX7_does 54 = .ok (.iload 5, 2) := by decide +kernel
theorem dX7_does_56 : decode cX7_does 56 = .ok (.getstatic 109, 3) := by decide +kernel
theorem dX7_does_59 : decode cX7_does 59 = .ok (.iload_n 3, 1) := by decide +kernel
theorem dX7_does_60 : decode cX7_does 60 = .ok (.iaload, 1) := by decide +kernel
theorem dX7_does_61 : decode cX7_does 61 = .ok (.imul, 1) := by decide +kernel
theorem dX7_does_62 : decode cX7_does 62 = .ok (.iadd, 1) := by decide +kernel
theorem dX7_does_63 : decode cX7_does 63 = .ok (.istore 6, 2) := by decide +kernel
theorem dX7_does_65 : decode cX7_does 65 = .ok (.aload_n 0, 1) := by decide +kernel
theorem dX7_does_66 : decode cX7_does 66 = .ok (.iload_n 2, 1) := by decide +kernel
theorem dX7_does_67 : decode cX7_does 67 = .ok (.iconst 4, 1) := by decide +kernel
theorem dX7_does_68 : decode cX7_does 68 = .ok (.idiv, 1) := by decide +kernel
theorem dX7_does_69 : decode cX7_does 69 = .ok (.invokevirtual 112, 3) := by decide +kernel
theorem dX7_does_72 : decode cX7_does 72 = .ok (.iload 4, 2) := by decide +kernel
theorem dX7_does_74 : decode cX7_does 74 = .ok (.getstatic 115, 3) := by decide +kernel
theorem dX7_does_77 : decode cX7_does 77 = .ok (.iload_n 3, 1) := by decide +kernel
theorem dX7_does_78 : decode cX7_does 78 = .ok (.iaload, 1) := by decide +kernel
theorem dX7_does_79 : decode cX7_does 79 = .ok (.imul, 1) := by decide +kernel
theorem dX7_does_80 : decode cX7_does 80 = .ok (.iadd, 1) := by decide +kernel
theorem dX7_does_81 : decode cX7_does 81 = .ok (.iload 5, 2) := by decide +kernel
theorem dX7_does_83 : decode cX7_does 83 = .ok (.getstatic 118, 3) := by decide +kernel
theorem dX7_does_86 : decode cX7_does 86 = .ok (.iload_n 3, 1) := by decide +kernel
theorem dX7_does_87 : decode cX7_does 87 = .ok (.iaload, 1) := by decide +kernel
theorem dX7_does_88 : decode cX7_does 88 = .ok (.imul, 1) := by decide +kernel
theorem dX7_does_89 : decode cX7_does 89 = .ok (.iadd, 1) := by decide +kernel
theorem dX7_does_90 : decode cX7_does 90 = .ok (.istore 7, 2) := by decide +kernel
theorem dX7_does_92 : decode cX7_does 92 = .ok (.aload_n 0, 1) := by decide +kernel
theorem dX7_does_93 : decode cX7_does 93 = .ok (.iload 6, 2) := by decide +kernel
theorem dX7_does_95 : decode cX7_does 95 = .ok (.invokevirtual 121, 3) := by decide +kernel
theorem dX7_does_98 : decode cX7_does 98 = .ok (.ifCond .eq 21, 3) := by decide +kernel
theorem dX7_does_101 : decode cX7_does 101 = .ok (.iload 7, 2) := by decide +kernel
theorem dX7_does_103 : decode cX7_does 103 = .ok (.ifCond .lt 16, 3) := by decide +kernel
theorem dX7_does_106 : decode cX7_does 106 = .ok (.iload 7, 2) := by decide +kernel
theorem dX7_does_108 : decode cX7_does 108 = .ok (.aload_n 0, 1) := by decide +kernel
theorem dX7_does_109 : decode cX7_does 109 = .ok (.invokevirtual 77, 3) := by decide +kernel
theorem dX7_does_112 : decode cX7_does 112 = .ok (.if_icmp .ge 7, 3) := by decide +kernel
theorem dX7_does_115 : decode cX7_does 115 = .ok (.iconst 1, 1) := by decide +kernel
theorem dX7_does_116 : decode cX7_does 116 = .ok (.goto 4, 3) := by decide +kernel
theorem dX7_does_119 : decode cX7_does 119 = .ok (.iconst 0, 1) := by decide +kernel
theorem dX7_does_120 : decode cX7_does 120 = .ok (.ireturn, 1) := by decide +kernel
set_option maxRecDepth 20000 in
def kX7_does_0 (g : sk_G) (d ck sk : Nat) (Q : sk_P) : sk_K := o_aload 1 (o_ifnull (o_i (0) (o_zret (g, d, ck, sk, xX7_does, Q))) (o_iload 2 (o_iflt (o_i (0) (o_zret (g, d, ck, sk, xX7_does, Q))) (o_iload 2 (o_aload 0 (o_invT (g, d, ck, sk, xX7_does, Q) 1 0 7 (fun Q => kX7_spots_0 g (d - 1) 0 0 Q) (o_iclt (o_iload 2 (o_i (4) (o_irem (o_istore 3 (o_aload 1 (o_getf 10 6 (o_i (1) (o_isub (o_istore 4 (o_aload 1 (o_getf 10 7 (o_i (1) (o_isub (o_istore 5 (o_aload 0 (o_iload 2 (o_i (4) (o_idiv (o_invT (g, d, ck, sk, xX7_does, Q) 2 1 7 (fun Q => kX7_rowOf_0 g (d - 1) 0 0 Q) (o_iload 4 (o_gets (g, d, ck, sk, xX7_does, Q) 2 (o_iload 3 (o_iaload (o_imul (o_iadd (o_iload 5 (o_gets (g, d, ck, sk, xX7_does, Q) 4 (o_iload 3 (o_iaload (o_imul (o_iadd (o_istore 6 (o_aload 0 (o_iload 2 (o_i (4) (o_idiv (o_invT (g, d, ck, sk, xX7_does, Q) 2 1 7 (fun Q => kX7_placeOf_0 g (d - 1) 0 0 Q) (o_iload 4 (o_gets (g, d, ck, sk, xX7_does, Q) 3 (o_iload 3 (o_iaload (o_imul (o_iadd (o_iload 5 (o_gets (g, d, ck, sk, xX7_does, Q) 5 (o_iload 3 (o_iaload (o_imul (o_iadd (o_istore 7 (o_aload 0 (o_iload 6 (o_invT (g, d, ck, sk, xX7_does, Q) 2 1 7 (fun Q => kX7_hasRow_0 g (d - 1) 0 0 Q) (o_ifeq (o_i (0) (o_zret (g, d, ck, sk, xX7_does, Q))) (o_iload 7 (o_iflt (o_i (0) (o_zret (g, d, ck, sk, xX7_does, Q))) (o_iload 7 (o_aload 0 (o_invT (g, d, ck, sk, xX7_does, Q) 1 0 7 (fun Q => kX7_wide_0 g (d - 1) 0 0 Q) (o_icge (o_i (0) (o_zret (g, d, ck, sk, xX7_does, Q))) (o_i (1) (o_zret (g, d, ck, sk, xX7_does, Q))))))))))))))))))))))))))))))))))))))))))))))))))))))))))))))) (o_i (0) (o_zret (g, d, ck, sk, xX7_does, Q))))))))))
set_option maxRecDepth 20000 in
theorem tX7_does_0 {g : sk_G} {d ck sk : Nat} {Q : sk_P} : sk_S (g, d, ck, sk, xX7_does, Q) 0 (kX7_does_0 g d ck sk Q) := s_aload_n dX7_does_0 rfl (s_ifnull (tgt := 16) dX7_does_1 (by decide) (s_iconst dX7_does_16 (s_zret dX7_does_17 rfl)) (s_iload_n dX7_does_4 rfl (s_iflt (tgt := 16) dX7_does_5 (by decide) (s_iconst dX7_does_16 (s_zret dX7_does_17 rfl)) (s_iload_n dX7_does_8 rfl (s_aload_n dX7_does_9 rfl (s_invT (X := xX7_spots) (ci := 7) (T := TX7) (N := 4) (K := (fun Q => kX7_spots_0 g (d - 1) 0 0 Q)) (fun _ => tX7_spots_0) rfl dX7_does_10 m_X7_spots rfl (by decide) qm_X7_95 qi_X7_spots qe_X7_spots (s_iclt (tgt := 18) dX7_does_13 (by decide) (s_iload_n dX7_does_18 rfl (s_iconst dX7_does_19 (s_irem dX7_does_20 (s_istore_n dX7_does_21 rfl (by decide : 3 < 8) (s_aload_n dX7_does_22 rfl (s_getfN (ci := 10) (j := 6) (C := RX10) (T := TX10) (N := 9) dX7_does_23 rfl (by decide) (by decide) qn_X7_98 (s_iconst dX7_does_26 (s_isub dX7_does_27 (s_istore dX7_does_28 (by decide : 4 < 8) (s_aload_n dX7_does_30 rfl (s_getfN (ci := 10) (j := 7) (C := RX10) (T := TX10) (N := 9) dX7_does_31 rfl (by decide) (by decide) qn_X7_103 (s_iconst dX7_does_34 (s_isub dX7_does_35 (s_istore dX7_does_36 (by decide : 5 < 8) (s_aload_n dX7_does_38 rfl (s_iload_n dX7_does_39 rfl (s_iconst dX7_does_40 (s_idiv dX7_does_41 (s_invT (X := xX7_rowOf) (ci := 7) (T := TX7) (N := 4) (K := (fun Q => kX7_rowOf_0 g (d - 1) 0 0 Q)) (fun _ => tX7_rowOf_0) rfl dX7_does_42 m_X7_rowOf rfl (by decide) qm_X7_89 qi_X7_rowOf qe_X7_rowOf (s_iload dX7_does_45 (s_gets dX7_does_47 (q := 2) (by decide) qf_X7_106 (s_iload_n dX7_does_50 rfl (s_iaload dX7_does_51 (s_imul dX7_does_52 (s_iadd dX7_does_53 (s_iload dX7_does_54 (s_gets dX7_does_56 (q := 4) (by decide) qf_X7_109 (s_iload_n dX7_does_59 rfl (s_iaload dX7_does_60 (s_imul dX7_does_61 (s_iadd dX7_does_62 (s_istore dX7_does_63 (by decide : 6 < 8) (s_aload_n dX7_does_65 rfl (s_iload_n dX7_does_66 rfl (s_iconst dX7_does_67 (s_idiv dX7_does_68 (s_invT (X := xX7_placeOf) (ci := 7) (T := TX7) (N := 4) (K := (fun Q => kX7_placeOf_0 g (d - 1) 0 0 Q)) (fun _ => tX7_placeOf_0) rfl dX7_does_69 m_X7_placeOf rfl (by decide) qm_X7_112 qi_X7_placeOf qe_X7_placeOf (s_iload dX7_does_72 (s_gets dX7_does_74 (q := 3) (by decide) qf_X7_115 (s_iload_n dX7_does_77 rfl (s_iaload dX7_does_78 (s_imul dX7_does_79 (s_iadd dX7_does_80 (s_iload dX7_does_81 (s_gets dX7_does_83 (q := 5) (by decide) qf_X7_118 (s_iload_n dX7_does_86 rfl (s_iaload dX7_does_87 (s_imul dX7_does_88 (s_iadd dX7_does_89 (s_istore dX7_does_90 (by decide : 7 < 8) (s_aload_n dX7_does_92 rfl (s_iload dX7_does_93 (s_invT (X := xX7_hasRow) (ci := 7) (T := TX7) (N := 4) (K := (fun Q => kX7_hasRow_0 g (d - 1) 0 0 Q)) (fun _ => tX7_hasRow_0) rfl dX7_does_95 m_X7_hasRow rfl (by decide) qm_X7_121 qi_X7_hasRow qe_X7_hasRow (s_ifeq (tgt := 119) dX7_does_98 (by decide) (s_iconst dX7_does_119 (s_zret dX7_does_120 rfl)) (s_iload dX7_does_101 (s_iflt (tgt := 119) dX7_does_103 (by decide) (s_iconst dX7_does_119 (s_zret dX7_does_120 rfl)) (s_iload dX7_does_106 (s_aload_n dX7_does_108 rfl (s_invT (X := xX7_wide) (ci := 7) (T := TX7) (N := 4) (K := (fun Q => kX7_wide_0 g (d - 1) 0 0 Q)) (fun _ => tX7_wide_0) rfl dX7_does_109 m_X7_wide rfl (by decide) qm_X7_77 qi_X7_wide qe_X7_wide (s_icge (tgt := 119) dX7_does_112 (by decide) (s_iconst dX7_does_119 (s_zret dX7_does_120 rfl)) (s_iconst dX7_does_115 (s_goto (tgt := 120) dX7_does_116 (by decide) (s_zret dX7_does_120 rfl))))))))))))))))))))))))))))))))))))))))))))))))))))))))))))))) (s_iconst dX7_does_16 (s_zret dX7_does_17 rfl)))))))))
theorem dX7_cellOf_0 : decode cX7_cellOf 0 = .ok (.iload_n 3, 1) := by decide +kernel
theorem dX7_cellOf_1 : decode cX7_cellOf 1 = .ok (.iconst 4, 1) := by decide +kernel
theorem dX7_cellOf_2 : decode cX7_cellOf 2 = .ok (.irem, 1) := by decide +kernel
theorem dX7_cellOf_3 : decode cX7_cellOf 3 = .ok (.istore 4, 2) := by decide +kernel
theorem dX7_cellOf_5 : decode cX7_cellOf 5 = .ok (.aload_n 1, 1) := by decide +kernel
theorem dX7_cellOf_6 : decode cX7_cellOf 6 = .ok (.getfield 124, 3) := by decide +kernel
theorem dX7_cellOf_9 : decode cX7_cellOf 9 = .ok (.iload_n 2, 1) := by decide +kernel
theorem dX7_cellOf_10 : decode cX7_cellOf 10 = .ok (.iaload, 1) := by decide +kernel
theorem dX7_cellOf_11 : decode cX7_cellOf 11 = .ok (.getstatic 106, 3) := by decide +kernel
theorem dX7_cellOf_14 : decode cX7_cellOf 14 = .ok (.iload 4, 2) := by decide +kernel
theorem dX7_cellOf_16 : decode cX7_cellOf 16 = .ok (.iaload, 1) := by decide +kernel
theorem dX7_cellOf_17 : decode cX7_cellOf 17 = .ok (.imul, 1) := by decide +kernel
theorem dX7_cellOf_18 : decode cX7_cellOf 18 = .ok (.aload_n 1, 1) := by decide +kernel
theorem dX7_cellOf_19 : decode cX7_cellOf 19 = .ok (.getfield 127, 3) := by decide +kernel
theorem dX7_cellOf_22 : decode cX7_cellOf 22 = .ok (.iload_n 2, 1) := by decide +kernel
theorem dX7_cellOf_23 : decode cX7_cellOf 23 = .ok (.iaload, 1) := by decide +kernel
theorem dX7_cellOf_24 : decode cX7_cellOf 24 = .ok (.getstatic 109, 3) := by decide +kernel
theorem dX7_cellOf_27 : decode cX7_cellOf 27 = .ok (.iload 4, 2) := by decide +kernel
theorem dX7_cellOf_29 : decode cX7_cellOf 29 = .ok (.iaload, 1) := by decide +kernel
theorem dX7_cellOf_30 : decode cX7_cellOf 30 = .ok (.imul, 1) := by decide +kernel
theorem dX7_cellOf_31 : decode cX7_cellOf 31 = .ok (.iadd, 1) := by decide +kernel
theorem dX7_cellOf_32 : decode cX7_cellOf 32 = .ok (.istore 5, 2) := by decide +kernel
theorem dX7_cellOf_34 : decode cX7_cellOf 34 = .ok (.aload_n 1, 1) := by decide +kernel
theorem dX7_cellOf_35 : decode cX7_cellOf 35 = .ok (.getfield 124, 3) := by decide +kernel
theorem dX7_cellOf_38 : decode cX7_cellOf 38 = .ok (.iload_n 2, 1) := by decide +kernel
theorem dX7_cellOf_39 : decode cX7_cellOf 39 = .ok (.iaload, 1) := by decide +kernel
theorem dX7_cellOf_40 : decode cX7_cellOf 40 = .ok (.getstatic 115, 3) := by decide +kernel
theorem dX7_cellOf_43 : decode cX7_cellOf 43 = .ok (.iload 4, 2) := by decide +kernel
theorem dX7_cellOf_45 : decode cX7_cellOf 45 = .ok (.iaload, 1) := by decide +kernel
theorem dX7_cellOf_46 : decode cX7_cellOf 46 = .ok (.imul, 1) := by decide +kernel
theorem dX7_cellOf_47 : decode cX7_cellOf 47 = .ok (.aload_n 1, 1) := by decide +kernel
theorem dX7_cellOf_48 : decode cX7_cellOf 48 = .ok (.getfield 127, 3) := by decide +kernel
theorem dX7_cellOf_51 : decode cX7_cellOf 51 = .ok (.iload_n 2, 1) := by decide +kernel
theorem dX7_cellOf_52 : decode cX7_cellOf 52 = .ok (.iaload, 1) := by decide +kernel
theorem dX7_cellOf_53 : decode cX7_cellOf 53 = .ok (.getstatic 118, 3) := by decide +kernel
theorem dX7_cellOf_56 : decode cX7_cellOf 56 = .ok (.iload 4, 2) := by decide +kernel
theorem dX7_cellOf_58 : decode cX7_cellOf 58 = .ok (.iaload, 1) := by decide +kernel
theorem dX7_cellOf_59 : decode cX7_cellOf 59 = .ok (.imul, 1) := by decide +kernel
theorem dX7_cellOf_60 : decode cX7_cellOf 60 = .ok (.iadd, 1) := by decide +kernel
theorem dX7_cellOf_61 : decode cX7_cellOf 61 = .ok (.istore 6, 2) := by decide +kernel
theorem dX7_cellOf_63 : decode cX7_cellOf 63 = .ok (.iload_n 3, 1) := by decide +kernel
theorem dX7_cellOf_64 : decode cX7_cellOf 64 = .ok (.iconst 4, 1) := by decide +kernel
theorem dX7_cellOf_65 : decode cX7_cellOf 65 = .ok (.idiv, 1) := by decide +kernel
theorem dX7_cellOf_66 : decode cX7_cellOf 66 = .ok (.aload_n 0, 1) := by decide +kernel
theorem dX7_cellOf_67 : decode cX7_cellOf 67 = .ok (.iload 5, 2) := by decide +kernel
theorem dX7_cellOf_69 : decode cX7_cellOf 69 = .ok (.invokevirtual 92, 3) := by decide +kernel
theorem dX7_cellOf_72 : decode cX7_cellOf 72 = .ok (.iadd, 1) := by decide +kernel
theorem dX7_cellOf_73 : decode cX7_cellOf 73 = .ok (.iload 6, 2) := by decide +kernel
theorem dX7_cellOf_75 : decode cX7_cellOf 75 = .ok (.iadd, 1) := by decide +kernel
theorem dX7_cellOf_76 : decode cX7_cellOf 76 = .ok (.ireturn, 1) := by decide +kernel
set_option maxRecDepth 20000 in
def kX7_cellOf_0 (g : sk_G) (d ck sk : Nat) (Q : sk_P) : sk_K := o_iload 3 (o_i (4) (o_irem (o_istore 4 (o_aload 1 (o_getf 10 1 (o_iload 2 (o_iaload (o_gets (g, d, ck, sk, xX7_cellOf, Q) 2 (o_iload 4 (o_iaload (o_imul (o_aload 1 (o_getf 10 2 (o_iload 2 (o_iaload (o_gets (g, d, ck, sk, xX7_cellOf, Q) 4 (o_iload 4 (o_iaload (o_imul (o_iadd (o_istore 5 (o_aload 1 (o_getf 10 1 (o_iload 2 (o_iaload (o_gets (g, d, ck, sk, xX7_cellOf, Q) 3 (o_iload 4 (o_iaload (o_imul (o_aload 1 (o_getf 10 2 (o_iload 2 (o_iaload (o_gets (g, d, ck, sk, xX7_cellOf, Q) 5 (o_iload 4 (o_iaload (o_imul (o_iadd (o_istore 6 (o_iload 3 (o_i (4) (o_idiv (o_aload 0 (o_iload 5 (o_invT (g, d, ck, sk, xX7_cellOf, Q) 2 1 7 (fun Q => kX7_firstOf_0 g (d - 1) 0 0 Q) (o_iadd (o_iload 6 (o_iadd (o_iret (g, d, ck, sk, xX7_cellOf, Q))))))))))))))))))))))))))))))))))))))))))))))))))
set_option maxRecDepth 20000 in
theorem tX7_cellOf_0 {g : sk_G} {d ck sk : Nat} {Q : sk_P} : sk_S (g, d, ck, sk, xX7_cellOf, Q) 0 (kX7_cellOf_0 g d ck sk Q) := s_iload_n dX7_cellOf_0 rfl (s_iconst dX7_cellOf_1 (s_irem dX7_cellOf_2 (s_istore dX7_cellOf_3 (by decide : 4 < 7) (s_aload_n dX7_cellOf_5 rfl (s_getfN (ci := 10) (j := 1) (C := RX10) (T := TX10) (N := 9) dX7_cellOf_6 rfl (by decide) (by decide) qn_X7_124 (s_iload_n dX7_cellOf_9 rfl (s_iaload dX7_cellOf_10 (s_gets dX7_cellOf_11 (q := 2) (by decide) qf_X7_106 (s_iload dX7_cellOf_14 (s_iaload dX7_cellOf_16 (s_imul dX7_cellOf_17 (s_aload_n dX7_cellOf_18 rfl (s_getfN (ci := 10) (j := 2) (C := RX10) (T := TX10) (N := 9) dX7_cellOf_19 rfl (by decide) (by decide) qn_X7_127 (s_iload_n dX7_cellOf_22 rfl (s_iaload dX7_cellOf_23 (s_gets dX7_cellOf_24 (q := 4) (by decide) qf_X7_109 (s_iload dX7_cellOf_27 (s_iaload dX7_cellOf_29 (s_imul dX7_cellOf_30 (s_iadd dX7_cellOf_31 (s_istore dX7_cellOf_32 (by decide : 5 < 7) (s_aload_n dX7_cellOf_34 rfl (s_getfN (ci := 10) (j := 1) (C := RX10) (T := TX10) (N := 9) dX7_cellOf_35 rfl (by decide) (by decide) qn_X7_124 (s_iload_n dX7_cellOf_38 rfl (s_iaload dX7_cellOf_39 (s_gets dX7_cellOf_40 (q := 3) (by decide) qf_X7_115 (s_iload dX7_cellOf_43 (s_iaload dX7_cellOf_45 (s_imul dX7_cellOf_46 (s_aload_n dX7_cellOf_47 rfl (s_getfN (ci := 10) (j := 2) (C := RX10) (T := TX10) (N := 9) dX7_cellOf_48 rfl (by decide) (by decide) qn_X7_127 (s_iload_n dX7_cellOf_51 rfl (s_iaload dX7_cellOf_52 (s_gets dX7_cellOf_53 (q := 5) (by decide) qf_X7_118 (s_iload dX7_cellOf_56 (s_iaload dX7_cellOf_58 (s_imul dX7_cellOf_59 (s_iadd dX7_cellOf_60 (s_istore dX7_cellOf_61 (by decide : 6 < 7) (s_iload_n dX7_cellOf_63 rfl (s_iconst dX7_cellOf_64 (s_idiv dX7_cellOf_65 (s_aload_n dX7_cellOf_66 rfl (s_iload dX7_cellOf_67 (s_invT (X := xX7_firstOf) (ci := 7) (T := TX7) (N := 4) (K := (fun Q => kX7_firstOf_0 g (d - 1) 0 0 Q)) (fun _ => tX7_firstOf_0) rfl dX7_cellOf_69 m_X7_firstOf rfl (by decide) qm_X7_92 qi_X7_firstOf qe_X7_firstOf (s_iadd dX7_cellOf_72 (s_iload dX7_cellOf_73 (s_iadd dX7_cellOf_75 (s_iret dX7_cellOf_76 rfl)))))))))))))))))))))))))))))))))))))))))))))))))
theorem dX7_letterAt_0 : decode cX7_letterAt 0 = .ok (.iload_n 2, 1) := by decide +kernel
theorem dX7_letterAt_1 : decode cX7_letterAt 1 = .ok (.iconst 4, 1) := by decide +kernel
theorem dX7_letterAt_2 : decode cX7_letterAt 2 = .ok (.irem, 1) := by decide +kernel
theorem dX7_letterAt_3 : decode cX7_letterAt 3 = .ok (.istore 4, 2) := by decide +kernel
theorem dX7_letterAt_5 : decode cX7_letterAt 5 = .ok (.aload_n 0, 1) := by decide +kernel
theorem dX7_letterAt_6 : decode cX7_letterAt 6 = .ok (.iload_n 3, 1) := by decide +kernel
theorem dX7_letterAt_7 : decode cX7_letterAt 7 = .ok (.invokevirtual 89, 3) := by decide +kernel
theorem dX7_letterAt_10 : decode cX7_letterAt 10 = .ok (.aload_n 0, 1) := by decide +kernel
theorem dX7_letterAt_11 : decode cX7_letterAt 11 = .ok (.iload_n 2, 1) := by decide +kernel
theorem dX7_letterAt_12 : decode cX7_letterAt 12 = .ok (.iconst 4, 1) := by decide +kernel
theorem dX7_letterAt_13 : decode cX7_letterAt 13 = .ok (.idiv, 1) := by decide +kernel
theorem dX7_letterAt_14 : decode cX7_letterAt 14 = .ok (.invokevirtual 89, 3) := by decide +kernel
theorem dX7_letterAt_17 : decode cX7_letterAt 17 = .ok (.isub, 1) := by decide +kernel
theorem dX7_letterAt_18 : decode cX7_letterAt 18 = .ok (.istore 5, 2) := by decide +kernel
theorem dX7_letterAt_20 : decode cX7_letterAt 20 = .ok (.aload_n 0, 1) := by decide +kernel
theorem dX7_letterAt_21 : decode cX7_letterAt 21 = .ok (.iload_n 3, 1) := by decide +kernel
theorem dX7_letterAt_22 : decode cX7_letterAt 22 = .ok (.invokevirtual 112, 3) := by decide +kernel
theorem dX7_letterAt_25 : decode cX7_letterAt 25 = .ok (.aload_n 0, 1) := by decide +kernel
theorem dX7_letterAt_26 : decode cX7_letterAt 26 = .ok (.iload_n 2, 1) := by decide +kernel
theorem dX7_letterAt_27 : decode cX7_letterAt 27 = .ok (.iconst 4, 1) := by decide +kernel
theorem dX7_letterAt_28 : decode cX7_letterAt 28 = .ok (.idiv, 1) := by decide +kernel
theorem dX7_letterAt_29 : decode cX7_letterAt 29 = .ok (.invokevirtual 112, 3) := by decide +kernel
theorem dX7_letterAt_32 : decode cX7_letterAt 32 = .ok (.isub, 1) := by decide +kernel
theorem dX7_letterAt_33 : decode cX7_letterAt 33 = .ok (.istore 6, 2) := by decide +kernel
theorem dX7_letterAt_35 : decode cX7_letterAt 35 = .ok (.iload 5, 2) := by decide +kernel
theorem dX7_letterAt_37 : decode cX7_letterAt 37 = .ok (.getstatic 106, 3) := by decide +kernel
theorem dX7_letterAt_40 : decode cX7_letterAt 40 = .ok (.iload 4, 2) := by decide +kernel
theorem dX7_letterAt_42 : decode cX7_letterAt 42 = .ok (.iaload, 1) := by decide +kernel
theorem dX7_letterAt_43 : decode cX7_letterAt 43 = .ok (.imul, 1) := by decide +kernel
theorem dX7_letterAt_44 : decode cX7_letterAt 44 = .ok (.iload 6, 2) := by decide +kernel
theorem dX7_letterAt_46 : decode cX7_letterAt 46 = .ok (.getstatic 115, 3) := by decide +kernel
theorem dX7_letterAt_49 : decode cX7_letterAt 49 = .ok (.iload 4, 2) := by decide +kernel
theorem dX7_letterAt_51 : decode cX7_letterAt 51 = .ok (.iaload, 1) := by decide +kernel
theorem dX7_letterAt_52 : decode cX7_letterAt 52 = .ok (.imul, 1) := by decide +kernel
theorem dX7_letterAt_53 : decode cX7_letterAt 53 = .ok (.iadd, 1) := by decide +kernel
theorem dX7_letterAt_54 : decode cX7_letterAt 54 = .ok (.istore 7, 2) := by decide +kernel
theorem dX7_letterAt_56 : decode cX7_letterAt 56 = .ok (.iload 5, 2) := by decide +kernel
theorem dX7_letterAt_58 : decode cX7_letterAt 58 = .ok (.getstatic 109, 3) := by decide +kernel
theorem dX7_letterAt_61 : decode cX7_letterAt 61 = .ok (.iload 4, 2) := by decide +kernel
theorem dX7_letterAt_63 : decode cX7_letterAt 63 = .ok (.iaload, 1) := by decide +kernel
theorem dX7_letterAt_64 : decode cX7_letterAt 64 = .ok (.imul, 1) := by decide +kernel
theorem dX7_letterAt_65 : decode cX7_letterAt 65 = .ok (.iload 6, 2) := by decide +kernel
theorem dX7_letterAt_67 : decode cX7_letterAt 67 = .ok (.getstatic 118, 3) := by decide +kernel
theorem dX7_letterAt_70 : decode cX7_letterAt 70 = .ok (.iload 4, 2) := by decide +kernel
theorem dX7_letterAt_72 : decode cX7_letterAt 72 = .ok (.iaload, 1) := by decide +kernel
theorem dX7_letterAt_73 : decode cX7_letterAt 73 = .ok (.imul, 1) := by decide +kernel
theorem dX7_letterAt_74 : decode cX7_letterAt 74 = .ok (.iadd, 1) := by decide +kernel
theorem dX7_letterAt_75 : decode cX7_letterAt 75 = .ok (.istore 8, 2) := by decide +kernel
theorem dX7_letterAt_77 : decode cX7_letterAt 77 = .ok (.aload_n 1, 1) := by decide +kernel
theorem dX7_letterAt_78 : decode cX7_letterAt 78 = .ok (.iload 7, 2) := by decide +kernel
theorem dX7_letterAt_80 : decode cX7_letterAt 80 = .ok (.iload 8, 2) := by decide +kernel
theorem dX7_letterAt_82 : decode cX7_letterAt 82 = .ok (.invokevirtual 129, 3) := by decide +kernel
theorem dX7_letterAt_85 : decode cX7_letterAt 85 = .ok (.istore 9, 2) := by decide +kernel
theorem dX7_letterAt_87 : decode cX7_letterAt 87 = .ok (.iload 9, 2) := by decide +kernel
theorem dX7_letterAt_89 : decode cX7_letterAt 89 = .ok (.iconst (-1), 1) := by decide +kernel
theorem dX7_letterAt_90 : decode cX7_letterAt 90 = .ok (.if_icmp .ne 8, 3) := by decide +kernel
theorem dX7_letterAt_93 : decode cX7_letterAt 93 = .ok (.bipush 26, 2) := by decide +kernel
theorem dX7_letterAt_95 : decode cX7_letterAt 95 = .ok (.goto 5, 3) := by decide +kernel
theorem dX7_letterAt_98 : decode cX7_letterAt 98 = .ok (.iload 9, 2) := by decide +kernel
theorem dX7_letterAt_100 : decode cX7_letterAt 100 = .ok (.ireturn, 1) := by decide +kernel
set_option maxRecDepth 20000 in
def kX7_letterAt_0 (g : sk_G) (d ck sk : Nat) (Q : sk_P) : sk_K := o_iload 2 (o_i (4) (o_irem (o_istore 4 (o_aload 0 (o_iload 3 (o_invT (g, d, ck, sk, xX7_letterAt, Q) 2 1 7 (fun Q => kX7_rowOf_0 g (d - 1) 0 0 Q) (o_aload 0 (o_iload 2 (o_i (4) (o_idiv (o_invT (g, d, ck, sk, xX7_letterAt, Q) 2 1 7 (fun Q => kX7_rowOf_0 g (d - 1) 0 0 Q) (o_isub (o_istore 5 (o_aload 0 (o_iload 3 (o_invT (g, d, ck, sk, xX7_letterAt, Q) 2 1 7 (fun Q => kX7_placeOf_0 g (d - 1) 0 0 Q) (o_aload 0 (o_iload 2 (o_i (4) (o_idiv (o_invT (g, d, ck, sk, xX7_letterAt, Q) 2 1 7 (fun Q => kX7_placeOf_0 g (d - 1) 0 0 Q) (o_isub (o_istore 6 (o_iload 5 (o_gets (g, d, ck, sk, xX7_letterAt, Q) 2 (o_iload 4 (o_iaload (o_imul (o_iload 6 (o_gets (g, d, ck, sk, xX7_letterAt, Q) 3 (o_iload 4 (o_iaload (o_imul (o_iadd (o_istore 7 (o_iload 5 (o_gets (g, d, ck, sk, xX7_letterAt, Q) 4 (o_iload 4 (o_iaload (o_imul (o_iload 6 (o_gets (g, d, ck, sk, xX7_letterAt, Q) 5 (o_iload 4 (o_iaload (o_imul (o_iadd (o_istore 8 (o_aload 1 (o_iload 7 (o_iload 8 (o_invT (g, d, ck, sk, xX7_letterAt, Q) 3 2 10 (fun Q => kX10_signAt_0 g (d - 1) 0 0 Q) (o_istore 9 (o_iload 9 (o_i (-1) (o_icne (o_iload 9 (o_iret (g, d, ck, sk, xX7_letterAt, Q))) (o_i (26) (o_iret (g, d, ck, sk, xX7_letterAt, Q))))))))))))))))))))))))))))))))))))))))))))))))))))))))))
set_option maxRecDepth 20000 in
theorem tX7_letterAt_0 {g : sk_G} {d ck sk : Nat} {Q : sk_P} : sk_S (g, d, ck, sk, xX7_letterAt, Q) 0 (kX7_letterAt_0 g d ck sk Q) := s_iload_n dX7_letterAt_0 rfl (s_iconst dX7_letterAt_1 (s_irem dX7_letterAt_2 (s_istore dX7_letterAt_3 (by decide : 4 < 10) (s_aload_n dX7_letterAt_5 rfl (s_iload_n dX7_letterAt_6 rfl (s_invT (X := xX7_rowOf) (ci := 7) (T := TX7) (N := 4) (K := (fun Q => kX7_rowOf_0 g (d - 1) 0 0 Q)) (fun _ => tX7_rowOf_0) rfl dX7_letterAt_7 m_X7_rowOf rfl (by decide) qm_X7_89 qi_X7_rowOf qe_X7_rowOf (s_aload_n dX7_letterAt_10 rfl (s_iload_n dX7_letterAt_11 rfl (s_iconst dX7_letterAt_12 (s_idiv dX7_letterAt_13 (s_invT (X := xX7_rowOf) (ci := 7) (T := TX7) (N := 4) (K := (fun Q => kX7_rowOf_0 g (d - 1) 0 0 Q)) (fun _ => tX7_rowOf_0) rfl dX7_letterAt_14 m_X7_rowOf rfl (by decide) qm_X7_89 qi_X7_rowOf qe_X7_rowOf (s_isub dX7_letterAt_17 (s_istore dX7_letterAt_18 (by decide : 5 < 10) (s_aload_n dX7_letterAt_20 rfl (s_iload_n dX7_letterAt_21 rfl (s_invT (X := xX7_placeOf) (ci := 7) (T := TX7) (N := 4) (K := (fun Q => kX7_placeOf_0 g (d - 1) 0 0 Q)) (fun _ => tX7_placeOf_0) rfl dX7_letterAt_22 m_X7_placeOf rfl (by decide) qm_X7_112 qi_X7_placeOf qe_X7_placeOf (s_aload_n dX7_letterAt_25 rfl (s_iload_n dX7_letterAt_26 rfl (s_iconst dX7_letterAt_27 (s_idiv dX7_letterAt_28 (s_invT (X := xX7_placeOf) (ci := 7) (T := TX7) (N := 4) (K := (fun Q => kX7_placeOf_0 g (d - 1) 0 0 Q)) (fun _ => tX7_placeOf_0) rfl dX7_letterAt_29 m_X7_placeOf rfl (by decide) qm_X7_112 qi_X7_placeOf qe_X7_placeOf (s_isub dX7_letterAt_32 (s_istore dX7_letterAt_33 (by decide : 6 < 10) (s_iload dX7_letterAt_35 (s_gets dX7_letterAt_37 (q := 2) (by decide) qf_X7_106 (s_iload dX7_letterAt_40 (s_iaload dX7_letterAt_42 (s_imul dX7_letterAt_43 (s_iload dX7_letterAt_44 (s_gets dX7_letterAt_46 (q := 3) (by decide) qf_X7_115 (s_iload dX7_letterAt_49 (s_iaload dX7_letterAt_51 (s_imul dX7_letterAt_52 (s_iadd dX7_letterAt_53 (s_istore dX7_letterAt_54 (by decide : 7 < 10) (s_iload dX7_letterAt_56 (s_gets dX7_letterAt_58 (q := 4) (by decide) qf_X7_109 (s_iload dX7_letterAt_61 (s_iaload dX7_letterAt_63 (s_imul dX7_letterAt_64 (s_iload dX7_letterAt_65 (s_gets dX7_letterAt_67 (q := 5) (by decide) qf_X7_118 (s_iload dX7_letterAt_70 (s_iaload dX7_letterAt_72 (s_imul dX7_letterAt_73 (s_iadd dX7_letterAt_74 (s_istore dX7_letterAt_75 (by decide : 8 < 10) (s_aload_n dX7_letterAt_77 rfl (s_iload dX7_letterAt_78 (s_iload dX7_letterAt_80 (s_invT (X := xX10_signAt) (ci := 10) (T := TX10) (N := 9) (K := (fun Q => kX10_signAt_0 g (d - 1) 0 0 Q)) (fun _ => tX10_signAt_0) rfl dX7_letterAt_82 m_X10_signAt rfl (by decide) qm_X7_129 qi_X10_signAt qe_X10_signAt (s_istore dX7_letterAt_85 (by decide : 9 < 10) (s_iload dX7_letterAt_87 (s_iconst dX7_letterAt_89 (s_icne (tgt := 98) dX7_letterAt_90 (by decide) (s_iload dX7_letterAt_98 (s_iret dX7_letterAt_100 rfl)) (s_bipush dX7_letterAt_93 rfl (s_goto (tgt := 100) dX7_letterAt_95 (by decide) (s_iret dX7_letterAt_100 rfl))))))))))))))))))))))))))))))))))))))))))))))))))))))))))
