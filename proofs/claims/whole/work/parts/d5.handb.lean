abbrev xL_hand : MethodName × ByteArray × Nat × Option FieldType := (yL_hand, cL_hand, 5, some .int)
theorem qc_X11_hand : Cond.code ⟨"ScrapedSkin", "hand", "(II)I"⟩ prog_1_method_7_code 3 (some .int) ∈ lw_tbl := sk_tb5 _ (List.mem_of_getElem? (i := 229) (by decide +kernel))
theorem qc_X5_layersOf : Cond.code ⟨"ScrapedSkin$Page", "layersOf", "(I)I"⟩ prog_7_method_21_code 5 (some .int) ∈ lw_tbl := sk_tb6 _ (List.mem_of_getElem? (i := 58) (by decide +kernel))
theorem qe_X11_hand : Cond.selects "ScrapedSkin" ⟨"ScrapedSkin", "hand", "(II)I"⟩ ⟨"ScrapedSkin", "hand", "(II)I"⟩ ∈ lw_tbl := sk_tb5 _ (List.mem_of_getElem? (i := 228) (by decide +kernel))
theorem qe_X5_layersOf : Cond.selects "ScrapedSkin$Page" ⟨"ScrapedSkin$Page", "layersOf", "(I)I"⟩ ⟨"ScrapedSkin$Page", "layersOf", "(I)I"⟩ ∈ lw_tbl := sk_tb6 _ (List.mem_of_getElem? (i := 57) (by decide +kernel))
theorem qi_X11_hand : Cond.instanceMethod ⟨"ScrapedSkin", "hand", "(II)I"⟩ ∈ lw_tbl := sk_tb5 _ (List.mem_of_getElem? (i := 227) (by decide +kernel))
theorem qi_X5_layersOf : Cond.instanceMethod ⟨"ScrapedSkin$Page", "layersOf", "(I)I"⟩ ∈ lw_tbl := sk_tb6 _ (List.mem_of_getElem? (i := 56) (by decide +kernel))
theorem qm_L_7 : Cond.methodLink "ScrapedSkinLaw" 7 ⟨"ScrapedSkin", "hand", "(II)I"⟩ ∈ lw_tbl := sk_tb5 _ (List.mem_of_getElem? (i := 226) (by decide +kernel))
theorem qm_X11_165 : Cond.methodLink "ScrapedSkin" 165 ⟨"ScrapedSkin$Page", "layersOf", "(I)I"⟩ ∈ lw_tbl := sk_tb6 _ (List.mem_of_getElem? (i := 55) (by decide +kernel))
theorem m_X11_hand : sk_mok xX11_hand 2 := ⟨qc_X11_hand, qz_X11, by decide +kernel, by decide +kernel, by decide +kernel, by decide +kernel, by decide⟩
theorem m_X5_layersOf : sk_mok xX5_layersOf 1 := ⟨qc_X5_layersOf, qz_X5, by decide +kernel, by decide +kernel, by decide +kernel, by decide +kernel, by decide⟩
theorem dL_hand_0 : decode cL_hand 0 = .ok (.aload_n 3, 1) := by decide +kernel
theorem dL_hand_1 : decode cL_hand 1 = .ok (.iconst 0, 1) := by decide +kernel
theorem dL_hand_2 : decode cL_hand 2 = .ok (.aload_n 0, 1) := by decide +kernel
theorem dL_hand_3 : decode cL_hand 3 = .ok (.iload_n 1, 1) := by decide +kernel
theorem dL_hand_4 : decode cL_hand 4 = .ok (.iload_n 2, 1) := by decide +kernel
theorem dL_hand_5 : decode cL_hand 5 = .ok (.invokevirtual 7, 3) := by decide +kernel
theorem dL_hand_8 : decode cL_hand 8 = .ok (.i2l, 1) := by decide +kernel
theorem dL_hand_9 : decode cL_hand 9 = .ok (.lastore, 1) := by decide +kernel
theorem dL_hand_10 : decode cL_hand 10 = .ok (.goto 7, 3) := by decide +kernel
theorem dL_hand_13 : decode cL_hand 13 = .ok (.astore 4, 2) := by decide +kernel
theorem dL_hand_15 : decode cL_hand 15 = .ok (.iconst 1, 1) := by decide +kernel
theorem dL_hand_16 : decode cL_hand 16 = .ok (.ireturn, 1) := by decide +kernel
theorem dL_hand_17 : decode cL_hand 17 = .ok (.iconst 0, 1) := by decide +kernel
theorem dL_hand_18 : decode cL_hand 18 = .ok (.ireturn, 1) := by decide +kernel
set_option maxRecDepth 20000 in
def kX11_hand_0 (g : sk_G) (d ck sk : Nat) (Q : sk_P) : sk_K := o_aload 0 (o_getf 11 1 (o_iload 1 (o_invT (g, d, ck, sk, xX11_hand, Q) 2 1 7 (fun Q => kX7_hasHand_0 g (d - 1) 0 0 Q) (o_ifeq ((fun _ _ _ => False)) (o_iload 2 (o_iflt ((fun _ _ _ => False)) (o_iload 2 (o_i (3) (o_icle (o_iload 2 (o_i (2) (o_icge (o_iload 2 (o_i (2) (o_icne (o_aload 0 (o_getf 11 4 (o_iload 1 (o_invB (g, d, ck, sk, xX11_hand, Q) xX5_strengthOf 1 5 0 0 (o_iret (g, d, ck, sk, xX11_hand, Q)))))) (o_aload 0 (o_getf 11 4 (o_iload 1 (o_invB (g, d, ck, sk, xX11_hand, Q) xX5_layersOf 1 5 0 0 (o_iret (g, d, ck, sk, xX11_hand, Q))))))))) (o_aload 0 (o_getf 11 1 (o_iload 1 (o_iload 2 (o_invT (g, d, ck, sk, xX11_hand, Q) 3 2 7 (fun Q => kX7_ofHand_0 g (d - 1) 0 0 Q) (o_iret (g, d, ck, sk, xX11_hand, Q)))))))))) ((fun _ _ _ => False)))))))))))
set_option maxRecDepth 20000 in
theorem tX11_hand_0 {g : sk_G} {d ck sk : Nat} {Q : sk_P} : sk_S (g, d, ck, sk, xX11_hand, Q) 0 (kX11_hand_0 g d ck sk Q) := s_aload_n dX11_hand_0 rfl (s_getf (ci := 11) (j := 1) (C := RX11) (T := TX11) (N := 17) dX11_hand_1 rfl (by decide) (by decide) qf_X11_19 (s_iload_n dX11_hand_4 rfl (s_invT (X := xX7_hasHand) (ci := 7) (T := TX7) (N := 4) (K := (fun Q => kX7_hasHand_0 g (d - 1) 0 0 Q)) (fun _ => tX7_hasHand_0) rfl dX11_hand_5 m_X7_hasHand rfl (by decide) qm_X11_151 qi_X7_hasHand qe_X7_hasHand (s_ifeq (tgt := 20) dX11_hand_8 (by decide) ((fun _ _ _ h => h.elim)) (s_iload_n dX11_hand_11 rfl (s_iflt (tgt := 20) dX11_hand_12 (by decide) ((fun _ _ _ h => h.elim)) (s_iload_n dX11_hand_15 rfl (s_iconst dX11_hand_16 (s_icle (tgt := 30) dX11_hand_17 (by decide) (s_iload_n dX11_hand_30 rfl (s_iconst dX11_hand_31 (s_icge (tgt := 45) dX11_hand_32 (by decide) (s_iload_n dX11_hand_45 rfl (s_iconst dX11_hand_46 (s_icne (tgt := 61) dX11_hand_47 (by decide) (s_aload_n dX11_hand_61 rfl (s_getf (ci := 11) (j := 4) (C := RX11) (T := TX11) (N := 17) dX11_hand_62 rfl (by decide) (by decide) qf_X11_36 (s_iload_n dX11_hand_65 rfl (s_invB (w' := (g, d, ck, sk, xX11_hand, Q)) (ci := 5) (ck := 0) (sk := 0) (T := TX5) (N := 6) dX11_hand_66 m_X5_strengthOf rfl (by decide) qm_X11_168 qi_X5_strengthOf qe_X5_strengthOf rfl (s_iret dX11_hand_69 rfl))))) (s_aload_n dX11_hand_50 rfl (s_getf (ci := 11) (j := 4) (C := RX11) (T := TX11) (N := 17) dX11_hand_51 rfl (by decide) (by decide) qf_X11_36 (s_iload_n dX11_hand_54 rfl (s_invB (w' := (g, d, ck, sk, xX11_hand, Q)) (ci := 5) (ck := 0) (sk := 0) (T := TX5) (N := 6) dX11_hand_55 m_X5_layersOf rfl (by decide) qm_X11_165 qi_X5_layersOf qe_X5_layersOf rfl (s_goto (tgt := 69) dX11_hand_58 (by decide) (s_iret dX11_hand_69 rfl))))))))) (s_aload_n dX11_hand_35 rfl (s_getf (ci := 11) (j := 1) (C := RX11) (T := TX11) (N := 17) dX11_hand_36 rfl (by decide) (by decide) qf_X11_19 (s_iload_n dX11_hand_39 rfl (s_iload_n dX11_hand_40 rfl (s_invT (X := xX7_ofHand) (ci := 7) (T := TX7) (N := 4) (K := (fun Q => kX7_ofHand_0 g (d - 1) 0 0 Q)) (fun _ => tX7_ofHand_0) rfl dX11_hand_41 m_X7_ofHand rfl (by decide) qm_X11_161 qi_X7_ofHand qe_X7_ofHand (s_iret dX11_hand_44 rfl))))))))) ((fun _ _ _ h => h.elim)))))))))))
set_option maxRecDepth 20000 in
def kL_hand_0 (g : sk_G) (d ck sk : Nat) (Q : sk_P) : sk_K := o_aload 3 (o_i (0) (o_aload 0 (o_iload 1 (o_iload 2 (o_invB (g, d, ck, sk, xL_hand, Q) xX11_hand 2 11 0 0 (o_i2l (o_lastore (o_i (0) (o_iret (g, d, ck, sk, xL_hand, Q))))))))))
set_option maxRecDepth 20000 in
theorem tL_hand_0 {g : sk_G} {d ck sk : Nat} {Q : sk_P} : sk_S (g, d, ck, sk, xL_hand, Q) 0 (kL_hand_0 g d ck sk Q) := s_aload_n dL_hand_0 rfl (s_iconst dL_hand_1 (s_aload_n dL_hand_2 rfl (s_iload_n dL_hand_3 rfl (s_iload_n dL_hand_4 rfl (s_invB (w' := (g, d, ck, sk, xL_hand, Q)) (ci := 11) (ck := 0) (sk := 0) (T := TX11) (N := 17) dL_hand_5 m_X11_hand rfl (by decide) qm_L_7 qi_X11_hand qe_X11_hand rfl (s_i2l dL_hand_8 (s_lastore dL_hand_9 (s_goto (tgt := 17) dL_hand_10 (by decide) (s_iconst dL_hand_17 (s_iret dL_hand_18 rfl))))))))))
set_option maxRecDepth 20000 in
def kL_hand_13 (g : sk_G) (d ck sk : Nat) (Q : sk_P) : sk_K := o_astore 4 (o_i (1) (o_iret (g, d, ck, sk, xL_hand, Q)))
set_option maxRecDepth 20000 in
theorem tL_hand_13 {g : sk_G} {d ck sk : Nat} {Q : sk_P} : sk_S (g, d, ck, sk, xL_hand, Q) 13 (kL_hand_13 g d ck sk Q) := s_astore dL_hand_13 (by decide : 4 < 5) (s_iconst dL_hand_15 (s_iret dL_hand_16 rfl))
