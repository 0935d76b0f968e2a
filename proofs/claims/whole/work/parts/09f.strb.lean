/-! ===== texts: contracts of length and indexOf ===== -/
section STRB
variable {g : sk_G} {d : Nat} {M : sk_M} {Q : sk_P} {i : Nat} {c : Int}
theorem j_coder (hi : i < 7) (hQ : Q (some (.inl 0)) M) : sk_call g d 0 0 xJ0_coder_7d493 [.inr (.inr (some (g.2.2.2.2 (10 + i))))] M Q := by
  refine tJ0_coder_7d493_0 _ _ _ ?_
  simp only [kJ0_coder_7d493_0, o_aaload, o_aastore, o_acopy, o_alen, o_aload, o_aret, o_astore, o_baload, o_bastore, o_dup, o_dup2, o_getf, o_gets, o_i, o_i2c, o_i2l, o_iadd, o_iaload, o_iand, o_iastore, o_iceq, o_icge, o_icgt, o_icle, o_iclt, o_icne, o_idiv, o_ifeq, o_ifge, o_ifgt, o_ifle, o_iflt, o_ifne, o_ifnull, o_iinc, o_iload, o_imul, o_ineg, o_iniB, o_invB, o_ior, o_irem, o_iret, o_ishl, o_ishr, o_istore, o_isub, o_iushr, o_ixor, o_l, o_l2i, o_ladd, o_lcmp, o_ldiv, o_lds, o_lload, o_lmul, o_lrem, o_lret, o_lstore, o_lsub, o_lushr, o_max, o_maxl, o_min, o_minl, o_new, o_newa, o_null, o_obj, o_pop, o_puta, o_puti, o_putl, o_putz, o_ret, o_sidx, o_slen, o_stcB, o_tsw, o_zret, sk_swt, o_sval, o_scod, o_sbl, o_sbd, o_i2b, o_bret, o_invS, sk_nth, sk_set, sk_lok, sk_isL, sk_one, sk_pop, sk_wt, sk_cat, sk_ent, sk_pad, sk_tl, List.length_cons, List.length_nil, true_and, and_true, Bool.not_false]
  exact ⟨fun e => absurd e (by decide), fun _ => ⟨i, hi, rfl, hQ⟩⟩
theorem j_latin (hi : i < 7) (hQ : Q (some (.inl 1)) M) : sk_call g d 0 0 xJ0_isLatin1_aae02 [.inr (.inr (some (g.2.2.2.2 (10 + i))))] M Q := by
  refine tJ0_isLatin1_aae02_0 _ _ _ ?_
  simp only [kJ0_isLatin1_aae02_0, o_aaload, o_aastore, o_acopy, o_alen, o_aload, o_aret, o_astore, o_baload, o_bastore, o_dup, o_dup2, o_getf, o_gets, o_i, o_i2c, o_i2l, o_iadd, o_iaload, o_iand, o_iastore, o_iceq, o_icge, o_icgt, o_icle, o_iclt, o_icne, o_idiv, o_ifeq, o_ifge, o_ifgt, o_ifle, o_iflt, o_ifne, o_ifnull, o_iinc, o_iload, o_imul, o_ineg, o_iniB, o_invB, o_ior, o_irem, o_iret, o_ishl, o_ishr, o_istore, o_isub, o_iushr, o_ixor, o_l, o_l2i, o_ladd, o_lcmp, o_ldiv, o_lds, o_lload, o_lmul, o_lrem, o_lret, o_lstore, o_lsub, o_lushr, o_max, o_maxl, o_min, o_minl, o_new, o_newa, o_null, o_obj, o_pop, o_puta, o_puti, o_putl, o_putz, o_ret, o_sidx, o_slen, o_stcB, o_tsw, o_zret, sk_swt, o_sval, o_scod, o_sbl, o_sbd, o_i2b, o_bret, o_invS, sk_nth, sk_set, sk_lok, sk_isL, sk_one, sk_pop, sk_wt, sk_cat, sk_ent, sk_pad, sk_tl, List.length_cons, List.length_nil, true_and, and_true, Bool.not_false]
  exact ⟨fun e => absurd e (by decide), fun _ => ⟨i, hi, rfl, fun e => absurd (by decide) e, fun _ => ⟨Or.inr trivial, hQ⟩⟩⟩
theorem sl_shr : ∀ i, i < 7 → sk_shr ((sk_sl.getD i 0 : Nat) : Int) 0 = (sk_sl.getD i 0 : Nat) := by decide
theorem sl_w : ∀ i, i < 7 → sk_w ((sk_sl.getD i 0 : Nat) : Int) = (sk_sl.getD i 0 : Nat) ∧ 0 < sk_sl.getD i 0 ∧ sk_sl.getD i 0 ≤ 6 := by decide
theorem sl_b : ∀ i, i < 7 → (sk_sb.getD i []).length = sk_sl.getD i 0 ∧ ∀ b ∈ sk_sb.getD i [], 0 ≤ b.toInt ∧ b.toInt < 128 := by decide
theorem sk_i2b_in : ∀ c : Nat, c < 256 → sk_i2b (c : Int) = (if c < 128 then (c : Int) else (c : Int) - 256) := by decide +kernel
theorem j_length (hd : 2 ≤ d) (hi : i < 7) (hQ : Q (some (.inl (sk_sl.getD i 0 : Nat))) M) : sk_call g d 0 0 xJ0_length_8abf5 [.inr (.inr (some (g.2.2.2.2 (10 + i))))] M Q := by
  refine tJ0_length_8abf5_0 _ _ _ ?_
  simp only [kJ0_length_8abf5_0, o_aaload, o_aastore, o_acopy, o_alen, o_aload, o_aret, o_astore, o_baload, o_bastore, o_dup, o_dup2, o_getf, o_gets, o_i, o_i2c, o_i2l, o_iadd, o_iaload, o_iand, o_iastore, o_iceq, o_icge, o_icgt, o_icle, o_iclt, o_icne, o_idiv, o_ifeq, o_ifge, o_ifgt, o_ifle, o_iflt, o_ifne, o_ifnull, o_iinc, o_iload, o_imul, o_ineg, o_iniB, o_invB, o_ior, o_irem, o_iret, o_ishl, o_ishr, o_istore, o_isub, o_iushr, o_ixor, o_l, o_l2i, o_ladd, o_lcmp, o_ldiv, o_lds, o_lload, o_lmul, o_lrem, o_lret, o_lstore, o_lsub, o_lushr, o_max, o_maxl, o_min, o_minl, o_new, o_newa, o_null, o_obj, o_pop, o_puta, o_puti, o_putl, o_putz, o_ret, o_sidx, o_slen, o_stcB, o_tsw, o_zret, sk_swt, o_sval, o_scod, o_sbl, o_sbd, o_i2b, o_bret, o_invS, sk_nth, sk_set, sk_lok, sk_isL, sk_one, sk_pop, sk_wt, sk_cat, sk_ent, sk_pad, sk_tl, List.length_cons, List.length_nil, true_and, and_true, Bool.not_false]
  refine ⟨i, hi, rfl, i, hi, rfl, ⟨i, hi, rfl⟩, by omega, by omega, by omega, j_coder hi ?_⟩
  simp only [o_aaload, o_aastore, o_acopy, o_alen, o_aload, o_aret, o_astore, o_baload, o_bastore, o_dup, o_dup2, o_getf, o_gets, o_i, o_i2c, o_i2l, o_iadd, o_iaload, o_iand, o_iastore, o_iceq, o_icge, o_icgt, o_icle, o_iclt, o_icne, o_idiv, o_ifeq, o_ifge, o_ifgt, o_ifle, o_iflt, o_ifne, o_ifnull, o_iinc, o_iload, o_imul, o_ineg, o_iniB, o_invB, o_ior, o_irem, o_iret, o_ishl, o_ishr, o_istore, o_isub, o_iushr, o_ixor, o_l, o_l2i, o_ladd, o_lcmp, o_ldiv, o_lds, o_lload, o_lmul, o_lrem, o_lret, o_lstore, o_lsub, o_lushr, o_max, o_maxl, o_min, o_minl, o_new, o_newa, o_null, o_obj, o_pop, o_puta, o_puti, o_putl, o_putz, o_ret, o_sidx, o_slen, o_stcB, o_tsw, o_zret, sk_swt, o_sval, o_scod, o_sbl, o_sbd, o_i2b, o_bret, o_invS, sk_nth, sk_set, sk_lok, sk_isL, sk_one, sk_pop, sk_wt, sk_cat, sk_ent, sk_pad, sk_tl, List.length_cons, List.length_nil, true_and, and_true, Bool.not_false]
  rw [sl_shr i hi]
  exact hQ
theorem j_can (h0 : 0 ≤ sk_w c) (h1 : sk_w c < 256) (hQ : Q (some (.inl 1)) M) : sk_call g d 0 0 xJ1_canEncode_9a6ad [.inl c] M Q := by
  refine tJ1_canEncode_9a6ad_0 _ _ _ ?_
  simp only [kJ1_canEncode_9a6ad_0, o_aaload, o_aastore, o_acopy, o_alen, o_aload, o_aret, o_astore, o_baload, o_bastore, o_dup, o_dup2, o_getf, o_gets, o_i, o_i2c, o_i2l, o_iadd, o_iaload, o_iand, o_iastore, o_iceq, o_icge, o_icgt, o_icle, o_iclt, o_icne, o_idiv, o_ifeq, o_ifge, o_ifgt, o_ifle, o_iflt, o_ifne, o_ifnull, o_iinc, o_iload, o_imul, o_ineg, o_iniB, o_invB, o_ior, o_irem, o_iret, o_ishl, o_ishr, o_istore, o_isub, o_iushr, o_ixor, o_l, o_l2i, o_ladd, o_lcmp, o_ldiv, o_lds, o_lload, o_lmul, o_lrem, o_lret, o_lstore, o_lsub, o_lushr, o_max, o_maxl, o_min, o_minl, o_new, o_newa, o_null, o_obj, o_pop, o_puta, o_puti, o_putl, o_putz, o_ret, o_sidx, o_slen, o_stcB, o_tsw, o_zret, sk_swt, o_sval, o_scod, o_sbl, o_sbd, o_i2b, o_bret, o_invS, sk_nth, sk_set, sk_lok, sk_isL, sk_one, sk_pop, sk_wt, sk_cat, sk_ent, sk_pad, sk_tl, List.length_cons, List.length_nil, true_and, and_true, Bool.not_false, show sk_w 255 = 255 from rfl]
  exact ⟨fun e => absurd h0 (by omega), fun _ => ⟨fun e => absurd h1 (by omega), fun _ => ⟨Or.inr trivial, hQ⟩⟩⟩
theorem sk_i2b_w (h0 : 0 ≤ sk_w c) (h1 : sk_w c < 256) : sk_i2b c = (if sk_w c < 128 then sk_w c else sk_w c - 256) := by
  have e : sk_i2b c = sk_i2b (sk_w c) := by unfold sk_i2b; rw [sk_of_w]
  obtain ⟨n, hn⟩ : ∃ n : Nat, sk_w c = n := ⟨(sk_w c).toNat, by omega⟩
  rw [e, hn, sk_i2b_in n (by omega)]
  by_cases q : n < 128
  · rw [if_pos q, if_pos (by omega)]
  · rw [if_neg q, if_neg (by omega)]
theorem j_char (hi : i < 7) (h0 : 0 ≤ sk_w c) (h1 : sk_w c < 256) (hQ : Q (some (.inl (sk_fnd (sk_w c) (sk_sb.getD i []) 0))) M) : sk_call g d 0 0 xJ1_indexOfChar_4cfef [.inr (.inr (some (g.2.2.2.2 (20 + i)))), .inl c, .inl 0, .inl (sk_sl.getD i 0 : Nat)] M Q := by
  obtain ⟨w1, w2, w3⟩ := sl_w i hi
  obtain ⟨b1, b2⟩ := sl_b i hi
  have eb := sk_i2b_w h0 h1
  have key : ∀ (l : List Int32) (j : Nat), (sk_sb.getD i []).drop j = l → j ≤ sk_sl.getD i 0 → Q (some (.inl (sk_fnd (sk_w c) l j))) M → sk_B (g, d, 0, 0, xJ1_indexOfChar_4cfef, Q) 7 [some (.inr (.inr (some (g.2.2.2.2 (20 + i))))), some (.inl c), some (.inl 0), some (.inl (sk_sl.getD i 0 : Nat)), some (.inl (sk_i2b c)), some (.inl j)] [] M := by
    intro l
    induction l with
    | nil =>
      intro j hl hj hq
      have : (sk_sb.getD i []).length ≤ j := List.drop_eq_nil_iff.mp hl
      have ej : sk_w (j : Int) = j := sk_w_id (by omega) (by omega)
      refine tJ1_indexOfChar_4cfef_7 _ _ _ ?_
      simp only [kJ1_indexOfChar_4cfef_7, o_aaload, o_aastore, o_acopy, o_alen, o_aload, o_aret, o_astore, o_baload, o_bastore, o_dup, o_dup2, o_getf, o_gets, o_i, o_i2c, o_i2l, o_iadd, o_iaload, o_iand, o_iastore, o_iceq, o_icge, o_icgt, o_icle, o_iclt, o_icne, o_idiv, o_ifeq, o_ifge, o_ifgt, o_ifle, o_iflt, o_ifne, o_ifnull, o_iinc, o_iload, o_imul, o_ineg, o_iniB, o_invB, o_ior, o_irem, o_iret, o_ishl, o_ishr, o_istore, o_isub, o_iushr, o_ixor, o_l, o_l2i, o_ladd, o_lcmp, o_ldiv, o_lds, o_lload, o_lmul, o_lrem, o_lret, o_lstore, o_lsub, o_lushr, o_max, o_maxl, o_min, o_minl, o_new, o_newa, o_null, o_obj, o_pop, o_puta, o_puti, o_putl, o_putz, o_ret, o_sidx, o_slen, o_stcB, o_tsw, o_zret, sk_swt, o_sval, o_scod, o_sbl, o_sbd, o_i2b, o_bret, o_invS, sk_nth, sk_set, sk_lok, sk_isL, sk_one, sk_pop, sk_wt, sk_cat, sk_ent, sk_pad, sk_tl, List.length_cons, List.length_nil, true_and, and_true, Bool.not_false]
      simp only [w1, ej]
      exact ⟨fun _ => hq, fun e => absurd e (by omega)⟩
    | cons b r ih =>
      intro j hl hj hq
      have hlt : j < (sk_sb.getD i []).length := by
        apply Nat.lt_of_not_le
        intro q
        rw [List.drop_eq_nil_of_le q] at hl
        cases hl
      have eg : (sk_sb.getD i []).getD j 0 = b := by
        have e2 : (sk_sb.getD i [])[j]? = some b := by
          have e3 : ((sk_sb.getD i []).drop j)[0]? = some b := by rw [hl]; rfl
          rw [List.getElem?_drop] at e3
          simpa using e3
        rw [List.getD_eq_getElem?_getD, e2]; rfl
      have er : (sk_sb.getD i []).drop (j + 1) = r := by
        have e4 : ((sk_sb.getD i []).drop j).drop 1 = r := by rw [hl]; rfl
        rw [List.drop_drop] at e4
        exact e4
      have bm : b ∈ sk_sb.getD i [] := List.mem_of_mem_drop (i := j) (by rw [hl]; exact List.mem_cons_self)
      have bb := b2 b bm
      have ej : sk_w (j : Int) = j := sk_w_id (by omega) (by omega)
      have ej1 : sk_w ((j : Int) + 1) = j + 1 := sk_w_id (by omega) (by omega)
      have et : (sk_w (j : Int)).toNat = j := by rw [ej]; omega
      have ebw : sk_w b.toInt = b.toInt := sk_w_toInt b
      have eiw : sk_w (sk_i2b c) = sk_i2b c := by unfold sk_i2b; exact sk_w_toInt _
      simp only [sk_fnd] at hq
      refine tJ1_indexOfChar_4cfef_7 _ _ _ ?_
      simp only [kJ1_indexOfChar_4cfef_7, o_aaload, o_aastore, o_acopy, o_alen, o_aload, o_aret, o_astore, o_baload, o_bastore, o_dup, o_dup2, o_getf, o_gets, o_i, o_i2c, o_i2l, o_iadd, o_iaload, o_iand, o_iastore, o_iceq, o_icge, o_icgt, o_icle, o_iclt, o_icne, o_idiv, o_ifeq, o_ifge, o_ifgt, o_ifle, o_iflt, o_ifne, o_ifnull, o_iinc, o_iload, o_imul, o_ineg, o_iniB, o_invB, o_ior, o_irem, o_iret, o_ishl, o_ishr, o_istore, o_isub, o_iushr, o_ixor, o_l, o_l2i, o_ladd, o_lcmp, o_ldiv, o_lds, o_lload, o_lmul, o_lrem, o_lret, o_lstore, o_lsub, o_lushr, o_max, o_maxl, o_min, o_minl, o_new, o_newa, o_null, o_obj, o_pop, o_puta, o_puti, o_putl, o_putz, o_ret, o_sidx, o_slen, o_stcB, o_tsw, o_zret, sk_swt, o_sval, o_scod, o_sbl, o_sbd, o_i2b, o_bret, o_invS, sk_nth, sk_set, sk_lok, sk_isL, sk_one, sk_pop, sk_wt, sk_cat, sk_ent, sk_pad, sk_tl, List.length_cons, List.length_nil, true_and, and_true, Bool.not_false]
      simp only [w1, ej, ej1, et, eg, ebw, eiw]
      refine ⟨fun e => absurd e (by omega), fun _ => ⟨i, hi, rfl, by omega, by omega, ?_⟩⟩
      rw [show ((j : Int)).toNat = j by omega, eg, ebw]
      refine ⟨fun e => ?_, fun e => ?_⟩
      · rw [if_neg (by rw [eb] at e; split at e <;> omega)] at hq
        have := ih (j + 1) er (by omega) (by push_cast; exact hq)
        push_cast at this
        exact this
      · rw [if_pos (by rw [eb] at e; split at e <;> omega)] at hq
        exact hq
  refine tJ1_indexOfChar_4cfef_0 _ _ _ ?_
  simp only [kJ1_indexOfChar_4cfef_0, o_aaload, o_aastore, o_acopy, o_alen, o_aload, o_aret, o_astore, o_baload, o_bastore, o_dup, o_dup2, o_getf, o_gets, o_i, o_i2c, o_i2l, o_iadd, o_iaload, o_iand, o_iastore, o_iceq, o_icge, o_icgt, o_icle, o_iclt, o_icne, o_idiv, o_ifeq, o_ifge, o_ifgt, o_ifle, o_iflt, o_ifne, o_ifnull, o_iinc, o_iload, o_imul, o_ineg, o_iniB, o_invB, o_ior, o_irem, o_iret, o_ishl, o_ishr, o_istore, o_isub, o_iushr, o_ixor, o_l, o_l2i, o_ladd, o_lcmp, o_ldiv, o_lds, o_lload, o_lmul, o_lrem, o_lret, o_lstore, o_lsub, o_lushr, o_max, o_maxl, o_min, o_minl, o_new, o_newa, o_null, o_obj, o_pop, o_puta, o_puti, o_putl, o_putz, o_ret, o_sidx, o_slen, o_stcB, o_tsw, o_zret, sk_swt, o_sval, o_scod, o_sbl, o_sbd, o_i2b, o_bret, o_invS, sk_nth, sk_set, sk_lok, sk_isL, sk_one, sk_pop, sk_wt, sk_cat, sk_ent, sk_pad, sk_tl, List.length_cons, List.length_nil, true_and, and_true, Bool.not_false]
  exact key _ 0 (List.drop_zero ..) (by omega) hQ
theorem j_index1 (hd : 3 ≤ d) (hi : i < 7) (h0 : 0 ≤ sk_w c) (h1 : sk_w c < 256) (hQ : Q (some (.inl (sk_fnd (sk_w c) (sk_sb.getD i []) 0))) M) : sk_call g d 0 0 xJ1_indexOf_4cfef [.inr (.inr (some (g.2.2.2.2 (20 + i)))), .inl c, .inl 0, .inl (sk_sl.getD i 0 : Nat)] M Q := by
  obtain ⟨w1, w2, w3⟩ := sl_w i hi
  refine tJ1_indexOf_4cfef_0 _ _ _ ?_
  simp only [kJ1_indexOf_4cfef_0, o_aaload, o_aastore, o_acopy, o_alen, o_aload, o_aret, o_astore, o_baload, o_bastore, o_dup, o_dup2, o_getf, o_gets, o_i, o_i2c, o_i2l, o_iadd, o_iaload, o_iand, o_iastore, o_iceq, o_icge, o_icgt, o_icle, o_iclt, o_icne, o_idiv, o_ifeq, o_ifge, o_ifgt, o_ifle, o_iflt, o_ifne, o_ifnull, o_iinc, o_iload, o_imul, o_ineg, o_iniB, o_invB, o_ior, o_irem, o_iret, o_ishl, o_ishr, o_istore, o_isub, o_iushr, o_ixor, o_l, o_l2i, o_ladd, o_lcmp, o_ldiv, o_lds, o_lload, o_lmul, o_lrem, o_lret, o_lstore, o_lsub, o_lushr, o_max, o_maxl, o_min, o_minl, o_new, o_newa, o_null, o_obj, o_pop, o_puta, o_puti, o_putl, o_putz, o_ret, o_sidx, o_slen, o_stcB, o_tsw, o_zret, sk_swt, o_sval, o_scod, o_sbl, o_sbd, o_i2b, o_bret, o_invS, sk_nth, sk_set, sk_lok, sk_isL, sk_one, sk_pop, sk_wt, sk_cat, sk_ent, sk_pad, sk_tl, List.length_cons, List.length_nil, true_and, and_true, Bool.not_false]
  refine ⟨by omega, by omega, by omega, by omega, by omega, j_can h0 h1 ?_⟩
  have m1 : sk_max (sk_w 0) (sk_w 0) = 0 := by decide
  have m2 : sk_min (sk_w ((sk_sl.getD i 0 : Nat) : Int)) (sk_w ((sk_sl.getD i 0 : Nat) : Int)) = (sk_sl.getD i 0 : Nat) := by rw [w1]; unfold sk_min; split <;> rfl
  have m3 : sk_min ((sk_sl.getD i 0 : Nat) : Int) ((sk_sl.getD i 0 : Nat) : Int) = (sk_sl.getD i 0 : Nat) := by unfold sk_min; split <;> rfl
  simp only [o_aaload, o_aastore, o_acopy, o_alen, o_aload, o_aret, o_astore, o_baload, o_bastore, o_dup, o_dup2, o_getf, o_gets, o_i, o_i2c, o_i2l, o_iadd, o_iaload, o_iand, o_iastore, o_iceq, o_icge, o_icgt, o_icle, o_iclt, o_icne, o_idiv, o_ifeq, o_ifge, o_ifgt, o_ifle, o_iflt, o_ifne, o_ifnull, o_iinc, o_iload, o_imul, o_ineg, o_iniB, o_invB, o_ior, o_irem, o_iret, o_ishl, o_ishr, o_istore, o_isub, o_iushr, o_ixor, o_l, o_l2i, o_ladd, o_lcmp, o_ldiv, o_lds, o_lload, o_lmul, o_lrem, o_lret, o_lstore, o_lsub, o_lushr, o_max, o_maxl, o_min, o_minl, o_new, o_newa, o_null, o_obj, o_pop, o_puta, o_puti, o_putl, o_putz, o_ret, o_sidx, o_slen, o_stcB, o_tsw, o_zret, sk_swt, o_sval, o_scod, o_sbl, o_sbd, o_i2b, o_bret, o_invS, sk_nth, sk_set, sk_lok, sk_isL, sk_one, sk_pop, sk_wt, sk_cat, sk_ent, sk_pad, sk_tl, List.length_cons, List.length_nil, true_and, and_true, Bool.not_false, m1]
  refine ⟨fun _ => ⟨by omega, by omega, i, hi, rfl, by omega, by omega, ?_⟩, fun e => absurd e (by decide)⟩
  simp only [w1, m3]
  refine ⟨fun _ => ⟨by omega, by omega, by omega, by omega, by omega, j_char hi h0 h1 ?_⟩, fun e => absurd e (by have : sk_w 0 = 0 := rfl; omega)⟩
  simp only [o_aaload, o_aastore, o_acopy, o_alen, o_aload, o_aret, o_astore, o_baload, o_bastore, o_dup, o_dup2, o_getf, o_gets, o_i, o_i2c, o_i2l, o_iadd, o_iaload, o_iand, o_iastore, o_iceq, o_icge, o_icgt, o_icle, o_iclt, o_icne, o_idiv, o_ifeq, o_ifge, o_ifgt, o_ifle, o_iflt, o_ifne, o_ifnull, o_iinc, o_iload, o_imul, o_ineg, o_iniB, o_invB, o_ior, o_irem, o_iret, o_ishl, o_ishr, o_istore, o_isub, o_iushr, o_ixor, o_l, o_l2i, o_ladd, o_lcmp, o_ldiv, o_lds, o_lload, o_lmul, o_lrem, o_lret, o_lstore, o_lsub, o_lushr, o_max, o_maxl, o_min, o_minl, o_new, o_newa, o_null, o_obj, o_pop, o_puta, o_puti, o_putl, o_putz, o_ret, o_sidx, o_slen, o_stcB, o_tsw, o_zret, sk_swt, o_sval, o_scod, o_sbl, o_sbd, o_i2b, o_bret, o_invS, sk_nth, sk_set, sk_lok, sk_isL, sk_one, sk_pop, sk_wt, sk_cat, sk_ent, sk_pad, sk_tl, List.length_cons, List.length_nil, true_and, and_true, Bool.not_false]
  exact hQ
theorem j_index (hd : 5 ≤ d) (hi : i < 7) (h0 : 0 ≤ sk_w c) (h1 : sk_w c < 256) (hQ : Q (some (.inl (sk_fnd (sk_w c) (sk_sb.getD i []) 0))) M) : sk_call g d 0 0 xJ0_indexOf_0f7a4 [.inr (.inr (some (g.2.2.2.2 (10 + i)))), .inl c] M Q := by
  refine tJ0_indexOf_0f7a4_0 _ _ _ ?_
  simp only [kJ0_indexOf_0f7a4_0, o_aaload, o_aastore, o_acopy, o_alen, o_aload, o_aret, o_astore, o_baload, o_bastore, o_dup, o_dup2, o_getf, o_gets, o_i, o_i2c, o_i2l, o_iadd, o_iaload, o_iand, o_iastore, o_iceq, o_icge, o_icgt, o_icle, o_iclt, o_icne, o_idiv, o_ifeq, o_ifge, o_ifgt, o_ifle, o_iflt, o_ifne, o_ifnull, o_iinc, o_iload, o_imul, o_ineg, o_iniB, o_invB, o_ior, o_irem, o_iret, o_ishl, o_ishr, o_istore, o_isub, o_iushr, o_ixor, o_l, o_l2i, o_ladd, o_lcmp, o_ldiv, o_lds, o_lload, o_lmul, o_lrem, o_lret, o_lstore, o_lsub, o_lushr, o_max, o_maxl, o_min, o_minl, o_new, o_newa, o_null, o_obj, o_pop, o_puta, o_puti, o_putl, o_putz, o_ret, o_sidx, o_slen, o_stcB, o_tsw, o_zret, sk_swt, o_sval, o_scod, o_sbl, o_sbd, o_i2b, o_bret, o_invS, sk_nth, sk_set, sk_lok, sk_isL, sk_one, sk_pop, sk_wt, sk_cat, sk_ent, sk_pad, sk_tl, List.length_cons, List.length_nil, true_and, and_true, Bool.not_false]
  refine ⟨⟨i, hi, rfl⟩, by omega, by omega, by omega, ?_⟩
  refine tJ0_indexOf_7cf53_0 _ _ _ ?_
  simp only [kJ0_indexOf_7cf53_0, o_aaload, o_aastore, o_acopy, o_alen, o_aload, o_aret, o_astore, o_baload, o_bastore, o_dup, o_dup2, o_getf, o_gets, o_i, o_i2c, o_i2l, o_iadd, o_iaload, o_iand, o_iastore, o_iceq, o_icge, o_icgt, o_icle, o_iclt, o_icne, o_idiv, o_ifeq, o_ifge, o_ifgt, o_ifle, o_iflt, o_ifne, o_ifnull, o_iinc, o_iload, o_imul, o_ineg, o_iniB, o_invB, o_ior, o_irem, o_iret, o_ishl, o_ishr, o_istore, o_isub, o_iushr, o_ixor, o_l, o_l2i, o_ladd, o_lcmp, o_ldiv, o_lds, o_lload, o_lmul, o_lrem, o_lret, o_lstore, o_lsub, o_lushr, o_max, o_maxl, o_min, o_minl, o_new, o_newa, o_null, o_obj, o_pop, o_puta, o_puti, o_putl, o_putz, o_ret, o_sidx, o_slen, o_stcB, o_tsw, o_zret, sk_swt, o_sval, o_scod, o_sbl, o_sbd, o_i2b, o_bret, o_invS, sk_nth, sk_set, sk_lok, sk_isL, sk_one, sk_pop, sk_wt, sk_cat, sk_ent, sk_pad, sk_tl, List.length_cons, List.length_nil, true_and, and_true, Bool.not_false]
  refine ⟨⟨i, hi, rfl⟩, by omega, by omega, by omega, j_latin hi ?_⟩
  simp only [o_aaload, o_aastore, o_acopy, o_alen, o_aload, o_aret, o_astore, o_baload, o_bastore, o_dup, o_dup2, o_getf, o_gets, o_i, o_i2c, o_i2l, o_iadd, o_iaload, o_iand, o_iastore, o_iceq, o_icge, o_icgt, o_icle, o_iclt, o_icne, o_idiv, o_ifeq, o_ifge, o_ifgt, o_ifle, o_iflt, o_ifne, o_ifnull, o_iinc, o_iload, o_imul, o_ineg, o_iniB, o_invB, o_ior, o_irem, o_iret, o_ishl, o_ishr, o_istore, o_isub, o_iushr, o_ixor, o_l, o_l2i, o_ladd, o_lcmp, o_ldiv, o_lds, o_lload, o_lmul, o_lrem, o_lret, o_lstore, o_lsub, o_lushr, o_max, o_maxl, o_min, o_minl, o_new, o_newa, o_null, o_obj, o_pop, o_puta, o_puti, o_putl, o_putz, o_ret, o_sidx, o_slen, o_stcB, o_tsw, o_zret, sk_swt, o_sval, o_scod, o_sbl, o_sbd, o_i2b, o_bret, o_invS, sk_nth, sk_set, sk_lok, sk_isL, sk_one, sk_pop, sk_wt, sk_cat, sk_ent, sk_pad, sk_tl, List.length_cons, List.length_nil, true_and, and_true, Bool.not_false]
  refine ⟨fun e => absurd e (by decide), fun _ => ⟨i, hi, rfl, ⟨i, hi, rfl⟩, by omega, by omega, by omega, j_length (by omega) hi ?_⟩⟩
  simp only [o_aaload, o_aastore, o_acopy, o_alen, o_aload, o_aret, o_astore, o_baload, o_bastore, o_dup, o_dup2, o_getf, o_gets, o_i, o_i2c, o_i2l, o_iadd, o_iaload, o_iand, o_iastore, o_iceq, o_icge, o_icgt, o_icle, o_iclt, o_icne, o_idiv, o_ifeq, o_ifge, o_ifgt, o_ifle, o_iflt, o_ifne, o_ifnull, o_iinc, o_iload, o_imul, o_ineg, o_iniB, o_invB, o_ior, o_irem, o_iret, o_ishl, o_ishr, o_istore, o_isub, o_iushr, o_ixor, o_l, o_l2i, o_ladd, o_lcmp, o_ldiv, o_lds, o_lload, o_lmul, o_lrem, o_lret, o_lstore, o_lsub, o_lushr, o_max, o_maxl, o_min, o_minl, o_new, o_newa, o_null, o_obj, o_pop, o_puta, o_puti, o_putl, o_putz, o_ret, o_sidx, o_slen, o_stcB, o_tsw, o_zret, sk_swt, o_sval, o_scod, o_sbl, o_sbd, o_i2b, o_bret, o_invS, sk_nth, sk_set, sk_lok, sk_isL, sk_one, sk_pop, sk_wt, sk_cat, sk_ent, sk_pad, sk_tl, List.length_cons, List.length_nil, true_and, and_true, Bool.not_false]
  refine ⟨by omega, by omega, by omega, by omega, by omega, j_index1 (by omega) hi h0 h1 ?_⟩
  simp only [o_aaload, o_aastore, o_acopy, o_alen, o_aload, o_aret, o_astore, o_baload, o_bastore, o_dup, o_dup2, o_getf, o_gets, o_i, o_i2c, o_i2l, o_iadd, o_iaload, o_iand, o_iastore, o_iceq, o_icge, o_icgt, o_icle, o_iclt, o_icne, o_idiv, o_ifeq, o_ifge, o_ifgt, o_ifle, o_iflt, o_ifne, o_ifnull, o_iinc, o_iload, o_imul, o_ineg, o_iniB, o_invB, o_ior, o_irem, o_iret, o_ishl, o_ishr, o_istore, o_isub, o_iushr, o_ixor, o_l, o_l2i, o_ladd, o_lcmp, o_ldiv, o_lds, o_lload, o_lmul, o_lrem, o_lret, o_lstore, o_lsub, o_lushr, o_max, o_maxl, o_min, o_minl, o_new, o_newa, o_null, o_obj, o_pop, o_puta, o_puti, o_putl, o_putz, o_ret, o_sidx, o_slen, o_stcB, o_tsw, o_zret, sk_swt, o_sval, o_scod, o_sbl, o_sbd, o_i2b, o_bret, o_invS, sk_nth, sk_set, sk_lok, sk_isL, sk_one, sk_pop, sk_wt, sk_cat, sk_ent, sk_pad, sk_tl, List.length_cons, List.length_nil, true_and, and_true, Bool.not_false]
  exact hQ
end STRB
section STRC
variable {w : sk_W} {pc : Nat} {k : sk_K} {index : Nat}
theorem s_slen (hd : decode (sk_bc w) pc = .ok (.invokevirtual index, 3)) (hl : Cond.methodLink w.2.2.2.2.1.1.cls index ⟨"java/lang/String", "length", "()I"⟩ ∈ lw_tbl) (hk : sk_S w (pc + 3) k) : sk_S w pc (o_slen w k) := by
  intro L st M h
  unfold o_slen at h
  split at h
  next a r =>
    obtain ⟨h8, hwt, i, hi, rfl, h⟩ := h
    refine s_invS (X := xJ0_length_8abf5) (n := 0) hd m_J0_length_8abf5 rfl hl qi_J0_length_8abf5 qe_J0_length_8abf5 hk _ _ _ ?_
    simp only [o_aaload, o_aastore, o_acopy, o_alen, o_aload, o_aret, o_astore, o_baload, o_bastore, o_dup, o_dup2, o_getf, o_gets, o_i, o_i2c, o_i2l, o_iadd, o_iaload, o_iand, o_iastore, o_iceq, o_icge, o_icgt, o_icle, o_iclt, o_icne, o_idiv, o_ifeq, o_ifge, o_ifgt, o_ifle, o_iflt, o_ifne, o_ifnull, o_iinc, o_iload, o_imul, o_ineg, o_iniB, o_invB, o_ior, o_irem, o_iret, o_ishl, o_ishr, o_istore, o_isub, o_iushr, o_ixor, o_l, o_l2i, o_ladd, o_lcmp, o_ldiv, o_lds, o_lload, o_lmul, o_lrem, o_lret, o_lstore, o_lsub, o_lushr, o_max, o_maxl, o_min, o_minl, o_new, o_newa, o_null, o_obj, o_pop, o_puta, o_puti, o_putl, o_putz, o_ret, o_sidx, o_slen, o_stcB, o_tsw, o_zret, sk_swt, o_sval, o_scod, o_sbl, o_sbd, o_i2b, o_bret, o_invS, sk_nth, sk_set, sk_lok, sk_isL, sk_one, sk_pop, sk_wt, sk_cat, sk_ent, sk_pad, sk_tl, List.length_cons, List.length_nil, true_and, and_true, Bool.not_false]
    exact ⟨⟨i, hi, rfl⟩, hwt, by omega, by omega, j_length (by omega) hi h⟩
  next => exact h.elim
theorem s_sidx (hd : decode (sk_bc w) pc = .ok (.invokevirtual index, 3)) (hl : Cond.methodLink w.2.2.2.2.1.1.cls index ⟨"java/lang/String", "indexOf", "(I)I"⟩ ∈ lw_tbl) (hk : sk_S w (pc + 3) k) : sk_S w pc (o_sidx w k) := by
  intro L st M h
  unfold o_sidx at h
  split at h
  next c a r =>
    obtain ⟨h8, hwt, c0, c1, i, hi, rfl, h⟩ := h
    refine s_invS (X := xJ0_indexOf_0f7a4) (n := 1) hd m_J0_indexOf_0f7a4 rfl hl qi_J0_indexOf_0f7a4 qe_J0_indexOf_0f7a4 hk _ _ _ ?_
    simp only [o_aaload, o_aastore, o_acopy, o_alen, o_aload, o_aret, o_astore, o_baload, o_bastore, o_dup, o_dup2, o_getf, o_gets, o_i, o_i2c, o_i2l, o_iadd, o_iaload, o_iand, o_iastore, o_iceq, o_icge, o_icgt, o_icle, o_iclt, o_icne, o_idiv, o_ifeq, o_ifge, o_ifgt, o_ifle, o_iflt, o_ifne, o_ifnull, o_iinc, o_iload, o_imul, o_ineg, o_iniB, o_invB, o_ior, o_irem, o_iret, o_ishl, o_ishr, o_istore, o_isub, o_iushr, o_ixor, o_l, o_l2i, o_ladd, o_lcmp, o_ldiv, o_lds, o_lload, o_lmul, o_lrem, o_lret, o_lstore, o_lsub, o_lushr, o_max, o_maxl, o_min, o_minl, o_new, o_newa, o_null, o_obj, o_pop, o_puta, o_puti, o_putl, o_putz, o_ret, o_sidx, o_slen, o_stcB, o_tsw, o_zret, sk_swt, o_sval, o_scod, o_sbl, o_sbd, o_i2b, o_bret, o_invS, sk_nth, sk_set, sk_lok, sk_isL, sk_one, sk_pop, sk_wt, sk_cat, sk_ent, sk_pad, sk_tl, List.length_cons, List.length_nil, true_and, and_true, Bool.not_false]
    exact ⟨⟨i, hi, rfl⟩, hwt, by omega, by omega, j_index (by omega) hi c0 c1 h⟩
  next => exact h.elim
end STRC
