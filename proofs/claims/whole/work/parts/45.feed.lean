/-! ===== feed ===== -/
/-- bytes come to the tape, as long as there is room -/
def fd_try : List Int → (Int → Int) → Int → Bool × (Int → Int) × Int
  | [], T, m => (true, T, m)
  | x :: r, T, m => if x = 0 then fd_try r T m else if 240 ≤ m then (false, T, m) else fd_try r (sk_up T m x) (m + 1)
def fd_cnt : List Int → Int
  | [] => 0
  | x :: r => (if x = 0 then 0 else 1) + fd_cnt r
def fd_all : List Int → (Int → Int) → Int → (Int → Int) × Int
  | [], T, m => (T, m)
  | x :: r, T, m => if x = 0 then fd_all r T m else fd_all r (sk_up T m x) (m + 1)
theorem fd_cnt_nn : ∀ l, 0 ≤ fd_cnt l ∧ fd_cnt l ≤ l.length
  | [] => by simp [fd_cnt]
  | x :: r => by
    have := fd_cnt_nn r
    simp only [fd_cnt, List.length_cons]
    split <;> omega
theorem fd_try_yes : ∀ (l : List Int) (T : Int → Int) (m : Int), m + fd_cnt l ≤ 240 → fd_try l T m = (true, fd_all l T m)
  | [], T, m, _ => rfl
  | x :: r, T, m, h => by
    have := fd_cnt_nn r
    simp only [fd_cnt] at h
    simp only [fd_try, fd_all]
    split
    · next e => rw [if_pos e] at h; exact fd_try_yes r T m (by omega)
    · next e => rw [if_neg e] at h; rw [if_neg (by omega)]; exact fd_try_yes r _ _ (by omega)
theorem fd_try_no : ∀ (l : List Int) (T : Int → Int) (m : Int), m ≤ 240 → 240 < m + fd_cnt l → (fd_try l T m).1 = false
  | [], T, m, h0, h => by simp only [fd_cnt] at h; omega
  | x :: r, T, m, h0, h => by
    simp only [fd_cnt] at h
    simp only [fd_try]
    split
    · next e => rw [if_pos e] at h; exact fd_try_no r T m h0 (by omega)
    · next e =>
      rw [if_neg e] at h
      split
      · rfl
      · exact fd_try_no r _ _ (by omega) (by omega)
theorem fd_try_low : ∀ (l : List Int) (T : Int → Int) (m : Int), m ≤ 240 → m ≤ (fd_try l T m).2.2 ∧ (fd_try l T m).2.2 ≤ 240 ∧ ∀ j, j < m → (fd_try l T m).2.1 j = T j
  | [], T, m, h => ⟨by simp [fd_try], by simpa [fd_try] using h, fun j _ => rfl⟩
  | x :: r, T, m, h => by
    simp only [fd_try]
    split
    · exact fd_try_low r T m h
    · split
      · exact ⟨by simp, by simpa using h, fun j _ => rfl⟩
      · obtain ⟨h1, h2, h3⟩ := fd_try_low r (sk_up T m x) (m + 1) (by omega)
        exact ⟨by omega, h2, fun j hj => by rw [h3 j (by omega), sk_up_ne _ _ (by omega)]⟩
theorem fd_try_app : ∀ (l r : List Int) (T : Int → Int) (m : Int), fd_try (l ++ r) T m = if (fd_try l T m).1 then fd_try r (fd_try l T m).2.1 (fd_try l T m).2.2 else fd_try l T m
  | [], r, T, m => by simp [fd_try]
  | x :: l, r, T, m => by
    simp only [List.cons_append, fd_try]
    split
    · exact fd_try_app l r T m
    · split
      · simp
      · exact fd_try_app l r _ _
/-- all bytes are within bounds behind it -/
theorem fd_try_ok : ∀ (l : List Int) (T : Int → Int) (m : Int), tp_ok T m → (∀ x ∈ l, 0 ≤ x ∧ x < 256) → tp_ok (fd_try l T m).2.1 (fd_try l T m).2.2
  | [], T, m, h, _ => h
  | x :: r, T, m, h, hx => by
    simp only [fd_try]
    have h9 := hx x (by simp)
    split
    · exact fd_try_ok r T m h (fun y hy => hx y (by simp [hy]))
    · split
      · exact h
      · refine fd_try_ok r _ _ ⟨by have := h.1; omega, by omega, fun j j0 j1 => ?_⟩ (fun y hy => hx y (by simp [hy]))
        by_cases e : j = m
        · subst e; rw [sk_up_self]; omega
        · rw [sk_up_ne _ _ e]; exact h.2.2 j j0 (by omega)
/-- the lowest k bytes, the highest of them first -/
def fd_l (x : Int) : Nat → List Int
  | 0 => []
  | k + 1 => fd_b x k :: fd_l x k
theorem fd_l_in (x : Int) : ∀ (k : Nat), ∀ y ∈ fd_l x k, 0 ≤ y ∧ y < 256
  | 0, y, h => by simp [fd_l] at h
  | k + 1, y, h => by
    simp only [fd_l, List.mem_cons] at h
    rcases h with rfl | h
    · exact fd_b_in x k
    · exact fd_l_in x k y h
def tp_to (M : sk_M) (a ba : Nat) (T : Int → Int) (n i : Int) : sk_M := (M.1, va_up (va_up M.2 ba (20, 240, sk_I T)) a (9, 0, sk_F [.inr (.inr (some ba)), .inl n, .inl i]))
section FEED
variable {g : sk_G} {d ck sk : Nat} {M M0 : sk_M} {Q : sk_P} {a ba : Nat} {T : Int → Int} {n i : Int}
theorem tp_fr (h : tp_at M a ba T n i) {T2 : Int → Int} {n2 i2 : Int} {M0 : sk_M} (hf : sk_fr1 M0 M (fun q => q = a ∨ q = ba)) : tp_at (M.1, va_up (va_up M.2 ba (20, 240, sk_I T2)) a (9, 0, sk_F [.inr (.inr (some ba)), .inl n2, .inl i2])) a ba T2 n2 i2 ∧ sk_fr1 M0 (M.1, va_up (va_up M.2 ba (20, 240, sk_I T2)) a (9, 0, sk_F [.inr (.inr (some ba)), .inl n2, .inl i2])) (fun q => q = a ∨ q = ba) := by
  have n1 : ba ≠ a := by rintro rfl; have := h.1; rw [h.2] at this; simp at this
  exact ⟨⟨va_up_self _ _ _, (va_up_ne _ _ n1).trans (va_up_self _ _ _)⟩, (hf.put (Or.inr rfl)).put (Or.inl rfl)⟩
theorem c_takeFour {x : Int} (h : tp_at M a ba T n i) (hn : 0 ≤ n) (hn2 : n ≤ 240) (hf : sk_fr1 M0 M (fun q => q = a ∨ q = ba)) (hQ : ∀ M', sk_fr1 M0 M' (fun q => q = a ∨ q = ba) → tp_at M' a ba (fd_try (fd_l x 4) T n).2.1 (fd_try (fd_l x 4) T n).2.2 i → Q (some (.inl (if (fd_try (fd_l x 4) T n).1 then 1 else 0))) M') : sk_call g d ck sk xX9_takeFour [.inr (.inr (some a)), .inl x] M Q := by
  have key : ∀ (k : Nat) (T : Int → Int) (n : Int) (M : sk_M), k ≤ 4 → 0 ≤ n → n ≤ 240 → tp_at M a ba T n i → sk_fr1 M0 M (fun q => q = a ∨ q = ba) → (∀ M', sk_fr1 M0 M' (fun q => q = a ∨ q = ba) → tp_at M' a ba (fd_try (fd_l x k) T n).2.1 (fd_try (fd_l x k) T n).2.2 i → Q (some (.inl (if (fd_try (fd_l x k) T n).1 then 1 else 0))) M') → sk_B (g, d, ck, sk, xX9_takeFour, Q) 3 [some (.inr (.inr (some a))), some (.inl x), some (.inl (8 * (k : Int) - 8)), none] [] M := by
    intro k
    induction k with
    | zero =>
      intro T n M k4 n0 n1 h hf hQ
      have e := hQ M hf h
      simp only [fd_l, fd_try, if_true] at e
      refine tX9_takeFour_3 _ _ _ ?_
      simp (disch := omega) only [kX9_takeFour_3, po_i, po_l, po_null, po_iload, po_lload, po_aload, po_istore, po_astore, po_iinc, po_iadd, po_isub, po_imul, po_ineg, po_iand, po_ior, po_ishl, po_ishr, po_iushr, po_idiv, po_irem, po_dup, po_dup2, po_pop, po_ifeq, po_ifne, po_iflt, po_ifge, po_ifgt, po_ifle, po_iceq, po_icne, po_iclt, po_icge, po_icgt, po_icle, po_ifnull, po_ifnull1, po_ret, po_iret, po_zret, po_lret, po_aret, po_getf, po_puti, po_putz, po_putl, po_puta, po_iaload, po_iastore, po_alen, po_baload, po_bastore, po_laload, po_lastore, po_aaload, po_aastore, po_invB, po_stcB, po_stcB0, po_iniB, po_new, po_newa, po_obj, po_ladd, po_lsub, po_lmul, po_ldiv, po_lrem, po_land, po_lor, po_lshl, po_lushr, po_i2l, po_l2i, po_i2c, po_lcmp, po_lstore, po_tsw, po_gets, po_max, po_min, po_maxl, po_minl, po_acopy, po_ixor, po_lds, po_slen, po_sidx, po_invT, po_stcT, po_stcT0, sk_swt, kX5_letterIn_0, kX5_handIn_0, kX5_strengthIn_0, kX5_weakened_0, kX5_codeAt_0, kX5_put_0, kX7_isSkin_0, kX7_wide_0, kX7_rows_0, kX7_legible_0, kX7_coinsAtFirst_0, kX7_cells_0, kX7_spots_0, kX7_hasCell_0, kX7_hasRow_0, kX7_hasHand_0, kX7_ofHand_0, kX7_firstOf_0, kX7_rowOf_0, kX7_placeOf_0, kX10_isLetter_0, kX10_signAt_0, kX8_writingAt_0, kX8_lawThatHolds_0, kX8_lets_0, kX9_rewind_0, kX9_step_0, kX9_stepBack_0, kX9_cut_0, kX3_clear_0, kX3_add_0, kX6_judge_0, kX6_swap_0, kX1_push_0, kX1_pop_0, kX0_forget_0, kX11_refuse_0, kX11_draw_0, kX12_in_0, kX12_has_0, kX12_here_0, kX12_bad_0, kX12_isDigit_0, kX12_isSign_0, kX12_isInk_0, kX12_of_0, kX12_setOf_0, kX12_isCell_0, kX12_isHand_0, kX12_isRow_0, kX12_isWriting_0, kX12_isLegible_0, kX12_signOf_0, kX12_areYears_0, kX12_isRefused_0, kX12_draw_0, sk_nth, sk_set, sk_lok, sk_isL, sk_one, sk_pop, sk_wt, sk_cat, sk_ent, sk_pad, sk_tl_n, sk_tl_s, List.length_cons, List.length_nil, true_and, and_true, Bool.not_false, sk_F_at, Option.getD_some, sk_w_id, sk_I_at, sk_isI, false_implies, true_implies, forall_const, ne_eq, not_true_eq_false, not_false_eq_true, implies_true, true_or, or_true, va_up_self, va_up_ne, va_up_up, sk_I_up]
      and_intros <;> intros <;> and_intros <;> intros <;> and_intros <;> intros <;> and_intros <;> intros <;> and_intros <;> intros <;> and_intros <;> intros <;> and_intros <;> intros <;> and_intros <;> intros <;> and_intros <;> try first | omega | rfl | assumption
    | succ k ih =>
      intro T n M k4 n0 n1 h hf hQ
      have n2 : ba ≠ a := by rintro rfl; have := h.1; rw [h.2] at this; simp at this
      have p1 := h.1
      have p2 := h.2
      have e1 : 8 * ((k + 1 : Nat) : Int) - 8 = ((8 * k : Nat) : Int) := by omega
      rw [e1]
      have e2 := fd_ushr x (k := k) (by omega)
      have e3 := fd_b_in x k
      have e4 : ∀ z : Int, sk_le [some (.inr (.inr (some a))), some (.inl x), some (.inl (8 * (k : Int) - 8)), none] [some (.inr (.inr (some a))), some (.inl x), some (.inl (((8 * k : Nat) : Int) + -8)), some (.inl z)] := by
        intro z
        simp [sk_le]
        omega
      simp only [fd_l, fd_try] at hQ
      by_cases hz : fd_b x k = 0
      · rw [if_pos hz] at hQ
        refine tX9_takeFour_3 _ _ _ ?_
        simp (disch := omega) only [kX9_takeFour_3, po_i, po_l, po_null, po_iload, po_lload, po_aload, po_istore, po_astore, po_iinc, po_iadd, po_isub, po_imul, po_ineg, po_iand, po_ior, po_ishl, po_ishr, po_iushr, po_idiv, po_irem, po_dup, po_dup2, po_pop, po_ifeq, po_ifne, po_iflt, po_ifge, po_ifgt, po_ifle, po_iceq, po_icne, po_iclt, po_icge, po_icgt, po_icle, po_ifnull, po_ifnull1, po_ret, po_iret, po_zret, po_lret, po_aret, po_getf, po_puti, po_putz, po_putl, po_puta, po_iaload, po_iastore, po_alen, po_baload, po_bastore, po_laload, po_lastore, po_aaload, po_aastore, po_invB, po_stcB, po_stcB0, po_iniB, po_new, po_newa, po_obj, po_ladd, po_lsub, po_lmul, po_ldiv, po_lrem, po_land, po_lor, po_lshl, po_lushr, po_i2l, po_l2i, po_i2c, po_lcmp, po_lstore, po_tsw, po_gets, po_max, po_min, po_maxl, po_minl, po_acopy, po_ixor, po_lds, po_slen, po_sidx, po_invT, po_stcT, po_stcT0, sk_swt, kX5_letterIn_0, kX5_handIn_0, kX5_strengthIn_0, kX5_weakened_0, kX5_codeAt_0, kX5_put_0, kX7_isSkin_0, kX7_wide_0, kX7_rows_0, kX7_legible_0, kX7_coinsAtFirst_0, kX7_cells_0, kX7_spots_0, kX7_hasCell_0, kX7_hasRow_0, kX7_hasHand_0, kX7_ofHand_0, kX7_firstOf_0, kX7_rowOf_0, kX7_placeOf_0, kX10_isLetter_0, kX10_signAt_0, kX8_writingAt_0, kX8_lawThatHolds_0, kX8_lets_0, kX9_rewind_0, kX9_step_0, kX9_stepBack_0, kX9_cut_0, kX3_clear_0, kX3_add_0, kX6_judge_0, kX6_swap_0, kX1_push_0, kX1_pop_0, kX0_forget_0, kX11_refuse_0, kX11_draw_0, kX12_in_0, kX12_has_0, kX12_here_0, kX12_bad_0, kX12_isDigit_0, kX12_isSign_0, kX12_isInk_0, kX12_of_0, kX12_setOf_0, kX12_isCell_0, kX12_isHand_0, kX12_isRow_0, kX12_isWriting_0, kX12_isLegible_0, kX12_signOf_0, kX12_areYears_0, kX12_isRefused_0, kX12_draw_0, sk_nth, sk_set, sk_lok, sk_isL, sk_one, sk_pop, sk_wt, sk_cat, sk_ent, sk_pad, sk_tl_n, sk_tl_s, List.length_cons, List.length_nil, true_and, and_true, Bool.not_false, sk_F_at, Option.getD_some, sk_w_id, sk_I_at, sk_isI, false_implies, true_implies, forall_const, ne_eq, not_true_eq_false, not_false_eq_true, implies_true, true_or, or_true, va_up_self, va_up_ne, va_up_up, sk_I_up, p1, p2, e2, hz]
        and_intros <;> intros <;> and_intros <;> intros <;> and_intros <;> intros <;> and_intros <;> intros <;> and_intros <;> intros <;> and_intros <;> intros <;> and_intros <;> intros <;> and_intros <;> intros <;> and_intros <;> try first | omega | rfl | assumption
        exact sk_drop (ih T n M (by omega) n0 n1 h hf hQ) (e4 _)
      · rw [if_neg hz] at hQ
        by_cases hm : 240 ≤ n
        · rw [if_pos hm] at hQ
          have e := hQ M hf h
          simp only [Bool.false_eq_true, if_false] at e
          refine tX9_takeFour_3 _ _ _ ?_
          simp (disch := omega) only [kX9_takeFour_3, po_i, po_l, po_null, po_iload, po_lload, po_aload, po_istore, po_astore, po_iinc, po_iadd, po_isub, po_imul, po_ineg, po_iand, po_ior, po_ishl, po_ishr, po_iushr, po_idiv, po_irem, po_dup, po_dup2, po_pop, po_ifeq, po_ifne, po_iflt, po_ifge, po_ifgt, po_ifle, po_iceq, po_icne, po_iclt, po_icge, po_icgt, po_icle, po_ifnull, po_ifnull1, po_ret, po_iret, po_zret, po_lret, po_aret, po_getf, po_puti, po_putz, po_putl, po_puta, po_iaload, po_iastore, po_alen, po_baload, po_bastore, po_laload, po_lastore, po_aaload, po_aastore, po_invB, po_stcB, po_stcB0, po_iniB, po_new, po_newa, po_obj, po_ladd, po_lsub, po_lmul, po_ldiv, po_lrem, po_land, po_lor, po_lshl, po_lushr, po_i2l, po_l2i, po_i2c, po_lcmp, po_lstore, po_tsw, po_gets, po_max, po_min, po_maxl, po_minl, po_acopy, po_ixor, po_lds, po_slen, po_sidx, po_invT, po_stcT, po_stcT0, sk_swt, kX5_letterIn_0, kX5_handIn_0, kX5_strengthIn_0, kX5_weakened_0, kX5_codeAt_0, kX5_put_0, kX7_isSkin_0, kX7_wide_0, kX7_rows_0, kX7_legible_0, kX7_coinsAtFirst_0, kX7_cells_0, kX7_spots_0, kX7_hasCell_0, kX7_hasRow_0, kX7_hasHand_0, kX7_ofHand_0, kX7_firstOf_0, kX7_rowOf_0, kX7_placeOf_0, kX10_isLetter_0, kX10_signAt_0, kX8_writingAt_0, kX8_lawThatHolds_0, kX8_lets_0, kX9_rewind_0, kX9_step_0, kX9_stepBack_0, kX9_cut_0, kX3_clear_0, kX3_add_0, kX6_judge_0, kX6_swap_0, kX1_push_0, kX1_pop_0, kX0_forget_0, kX11_refuse_0, kX11_draw_0, kX12_in_0, kX12_has_0, kX12_here_0, kX12_bad_0, kX12_isDigit_0, kX12_isSign_0, kX12_isInk_0, kX12_of_0, kX12_setOf_0, kX12_isCell_0, kX12_isHand_0, kX12_isRow_0, kX12_isWriting_0, kX12_isLegible_0, kX12_signOf_0, kX12_areYears_0, kX12_isRefused_0, kX12_draw_0, sk_nth, sk_set, sk_lok, sk_isL, sk_one, sk_pop, sk_wt, sk_cat, sk_ent, sk_pad, sk_tl_n, sk_tl_s, List.length_cons, List.length_nil, true_and, and_true, Bool.not_false, sk_F_at, Option.getD_some, sk_w_id, sk_I_at, sk_isI, false_implies, true_implies, forall_const, ne_eq, not_true_eq_false, not_false_eq_true, implies_true, true_or, or_true, va_up_self, va_up_ne, va_up_up, sk_I_up, p1, p2, e2]
          and_intros <;> intros <;> and_intros <;> intros <;> and_intros <;> intros <;> and_intros <;> intros <;> and_intros <;> intros <;> and_intros <;> intros <;> and_intros <;> intros <;> and_intros <;> intros <;> and_intros <;> try first | omega | rfl | assumption
        · rw [if_neg hm] at hQ
          obtain ⟨h1, h2⟩ := tp_fr h (T2 := sk_up T n (fd_b x k)) (n2 := n + 1) (i2 := i) hf
          have ih2 := ih _ _ _ (by omega) (by omega) (by omega) h1 h2 hQ
          refine tX9_takeFour_3 _ _ _ ?_
          simp (disch := omega) only [kX9_takeFour_3, po_i, po_l, po_null, po_iload, po_lload, po_aload, po_istore, po_astore, po_iinc, po_iadd, po_isub, po_imul, po_ineg, po_iand, po_ior, po_ishl, po_ishr, po_iushr, po_idiv, po_irem, po_dup, po_dup2, po_pop, po_ifeq, po_ifne, po_iflt, po_ifge, po_ifgt, po_ifle, po_iceq, po_icne, po_iclt, po_icge, po_icgt, po_icle, po_ifnull, po_ifnull1, po_ret, po_iret, po_zret, po_lret, po_aret, po_getf, po_puti, po_putz, po_putl, po_puta, po_iaload, po_iastore, po_alen, po_baload, po_bastore, po_laload, po_lastore, po_aaload, po_aastore, po_invB, po_stcB, po_stcB0, po_iniB, po_new, po_newa, po_obj, po_ladd, po_lsub, po_lmul, po_ldiv, po_lrem, po_land, po_lor, po_lshl, po_lushr, po_i2l, po_l2i, po_i2c, po_lcmp, po_lstore, po_tsw, po_gets, po_max, po_min, po_maxl, po_minl, po_acopy, po_ixor, po_lds, po_slen, po_sidx, po_invT, po_stcT, po_stcT0, sk_swt, kX5_letterIn_0, kX5_handIn_0, kX5_strengthIn_0, kX5_weakened_0, kX5_codeAt_0, kX5_put_0, kX7_isSkin_0, kX7_wide_0, kX7_rows_0, kX7_legible_0, kX7_coinsAtFirst_0, kX7_cells_0, kX7_spots_0, kX7_hasCell_0, kX7_hasRow_0, kX7_hasHand_0, kX7_ofHand_0, kX7_firstOf_0, kX7_rowOf_0, kX7_placeOf_0, kX10_isLetter_0, kX10_signAt_0, kX8_writingAt_0, kX8_lawThatHolds_0, kX8_lets_0, kX9_rewind_0, kX9_step_0, kX9_stepBack_0, kX9_cut_0, kX3_clear_0, kX3_add_0, kX6_judge_0, kX6_swap_0, kX1_push_0, kX1_pop_0, kX0_forget_0, kX11_refuse_0, kX11_draw_0, kX12_in_0, kX12_has_0, kX12_here_0, kX12_bad_0, kX12_isDigit_0, kX12_isSign_0, kX12_isInk_0, kX12_of_0, kX12_setOf_0, kX12_isCell_0, kX12_isHand_0, kX12_isRow_0, kX12_isWriting_0, kX12_isLegible_0, kX12_signOf_0, kX12_areYears_0, kX12_isRefused_0, kX12_draw_0, sk_nth, sk_set, sk_lok, sk_isL, sk_one, sk_pop, sk_wt, sk_cat, sk_ent, sk_pad, sk_tl_n, sk_tl_s, List.length_cons, List.length_nil, true_and, and_true, Bool.not_false, sk_F_at, Option.getD_some, sk_w_id, sk_I_at, sk_isI, false_implies, true_implies, forall_const, ne_eq, not_true_eq_false, not_false_eq_true, implies_true, true_or, or_true, va_up_self, va_up_ne, va_up_up, sk_I_up, p1, p2, e2, sk_Fu1]
          and_intros <;> intros <;> and_intros <;> intros <;> and_intros <;> intros <;> and_intros <;> intros <;> and_intros <;> intros <;> and_intros <;> intros <;> and_intros <;> intros <;> and_intros <;> intros <;> and_intros <;> try first | omega | rfl | assumption
          exact sk_drop ih2 (e4 _)
  refine tX9_takeFour_0 _ _ _ ?_
  simp (disch := omega) only [kX9_takeFour_0, po_i, po_l, po_null, po_iload, po_lload, po_aload, po_istore, po_astore, po_iinc, po_iadd, po_isub, po_imul, po_ineg, po_iand, po_ior, po_ishl, po_ishr, po_iushr, po_idiv, po_irem, po_dup, po_dup2, po_pop, po_ifeq, po_ifne, po_iflt, po_ifge, po_ifgt, po_ifle, po_iceq, po_icne, po_iclt, po_icge, po_icgt, po_icle, po_ifnull, po_ifnull1, po_ret, po_iret, po_zret, po_lret, po_aret, po_getf, po_puti, po_putz, po_putl, po_puta, po_iaload, po_iastore, po_alen, po_baload, po_bastore, po_laload, po_lastore, po_aaload, po_aastore, po_invB, po_stcB, po_stcB0, po_iniB, po_new, po_newa, po_obj, po_ladd, po_lsub, po_lmul, po_ldiv, po_lrem, po_land, po_lor, po_lshl, po_lushr, po_i2l, po_l2i, po_i2c, po_lcmp, po_lstore, po_tsw, po_gets, po_max, po_min, po_maxl, po_minl, po_acopy, po_ixor, po_lds, po_slen, po_sidx, po_invT, po_stcT, po_stcT0, sk_swt, kX5_letterIn_0, kX5_handIn_0, kX5_strengthIn_0, kX5_weakened_0, kX5_codeAt_0, kX5_put_0, kX7_isSkin_0, kX7_wide_0, kX7_rows_0, kX7_legible_0, kX7_coinsAtFirst_0, kX7_cells_0, kX7_spots_0, kX7_hasCell_0, kX7_hasRow_0, kX7_hasHand_0, kX7_ofHand_0, kX7_firstOf_0, kX7_rowOf_0, kX7_placeOf_0, kX10_isLetter_0, kX10_signAt_0, kX8_writingAt_0, kX8_lawThatHolds_0, kX8_lets_0, kX9_rewind_0, kX9_step_0, kX9_stepBack_0, kX9_cut_0, kX3_clear_0, kX3_add_0, kX6_judge_0, kX6_swap_0, kX1_push_0, kX1_pop_0, kX0_forget_0, kX11_refuse_0, kX11_draw_0, kX12_in_0, kX12_has_0, kX12_here_0, kX12_bad_0, kX12_isDigit_0, kX12_isSign_0, kX12_isInk_0, kX12_of_0, kX12_setOf_0, kX12_isCell_0, kX12_isHand_0, kX12_isRow_0, kX12_isWriting_0, kX12_isLegible_0, kX12_signOf_0, kX12_areYears_0, kX12_isRefused_0, kX12_draw_0, sk_nth, sk_set, sk_lok, sk_isL, sk_one, sk_pop, sk_wt, sk_cat, sk_ent, sk_pad, sk_tl_n, sk_tl_s, List.length_cons, List.length_nil, true_and, and_true, Bool.not_false, sk_F_at, Option.getD_some, sk_w_id, sk_I_at, sk_isI, false_implies, true_implies, forall_const, ne_eq, not_true_eq_false, not_false_eq_true, implies_true, true_or, or_true, va_up_self, va_up_ne, va_up_up, sk_I_up]
  exact key 4 T n M (by omega) hn hn2 h hf hQ
end FEED
