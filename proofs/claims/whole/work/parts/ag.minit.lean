/-! ===== the reference: its constructor ===== -/
def mz (B i : Nat) (S : Nat → Int) : Nat → sk_V := fun j => if md_off j = 0 then (if j = 34 then .inr (.inl (S j)) else .inl (S j)) else if md_off j ≤ i then .inr (.inr (some (B + md_off j))) else .inr (.inr none)
theorem md_off_big {k : Nat} (h : 49 ≤ k) : md_off k = 0 := by
  unfold md_off
  split <;> first | omega | rfl
theorem mz_up {B i j : Nat} {S : Nat → Int} (h : md_off j = i + 1) (hu : ∀ k, k < 49 → k ≠ j → md_off k ≠ i + 1) : va_up (mz B i S) j (.inr (.inr (some (B + (i + 1))))) = mz B (i + 1) S := by
  funext k
  unfold va_up mz
  by_cases e : k = j
  · subst e
    rw [if_pos rfl, if_neg (by omega), if_pos (by omega), h]
  · rw [if_neg e]
    by_cases z : md_off k = 0
    · rw [if_pos z, if_pos z]
    · rw [if_neg z, if_neg z]
      have : md_off k ≠ i + 1 := by
        by_cases q : k < 49
        · exact hu k q e
        · rw [md_off_big (by omega)]; omega
      by_cases q : md_off k ≤ i
      · rw [if_pos q, if_pos (by omega)]
      · rw [if_neg q, if_neg (by omega)]
theorem mz_u {B i j : Nat} {S : Nat → Int} (x : Int) (h : md_off j = 0) (h2 : j ≠ 34) : va_up (mz B i S) j (.inl x) = mz B i (va_up S j x) := by
  funext k
  unfold va_up mz
  by_cases e : k = j
  · subst e
    simp [h, h2]
  · simp [e]
theorem mz_done (B : Nat) (S : Nat → Int) : mz B 30 S = md_F B S := by
  funext k
  unfold mz md_F
  by_cases z : md_off k = 0
  · rw [if_pos z, if_pos z]
  · rw [if_neg z, if_neg z, if_pos]
    by_cases q : k < 49
    · have : ∀ k, k < 49 → md_off k ≤ 30 := by decide
      exact this k q
    · rw [md_off_big (by omega)]; omega
theorem mz_1 (B : Nat) (S : Nat → Int) : va_up (mz B 0 S) 1 (.inr (.inr (some (B + 1)))) = mz B 1 S := mz_up rfl (by decide)
theorem mz_2 (B : Nat) (S : Nat → Int) : va_up (mz B 1 S) 6 (.inr (.inr (some (B + 2)))) = mz B 2 S := mz_up rfl (by decide)
theorem mz_3 (B : Nat) (S : Nat → Int) : va_up (mz B 2 S) 7 (.inr (.inr (some (B + 3)))) = mz B 3 S := mz_up rfl (by decide)
theorem mz_4 (B : Nat) (S : Nat → Int) : va_up (mz B 3 S) 8 (.inr (.inr (some (B + 4)))) = mz B 4 S := mz_up rfl (by decide)
theorem mz_5 (B : Nat) (S : Nat → Int) : va_up (mz B 4 S) 9 (.inr (.inr (some (B + 5)))) = mz B 5 S := mz_up rfl (by decide)
theorem mz_6 (B : Nat) (S : Nat → Int) : va_up (mz B 5 S) 10 (.inr (.inr (some (B + 6)))) = mz B 6 S := mz_up rfl (by decide)
theorem mz_7 (B : Nat) (S : Nat → Int) : va_up (mz B 6 S) 11 (.inr (.inr (some (B + 7)))) = mz B 7 S := mz_up rfl (by decide)
theorem mz_8 (B : Nat) (S : Nat → Int) : va_up (mz B 7 S) 12 (.inr (.inr (some (B + 8)))) = mz B 8 S := mz_up rfl (by decide)
theorem mz_9 (B : Nat) (S : Nat → Int) : va_up (mz B 8 S) 15 (.inr (.inr (some (B + 9)))) = mz B 9 S := mz_up rfl (by decide)
theorem mz_10 (B : Nat) (S : Nat → Int) : va_up (mz B 9 S) 16 (.inr (.inr (some (B + 10)))) = mz B 10 S := mz_up rfl (by decide)
theorem mz_11 (B : Nat) (S : Nat → Int) : va_up (mz B 10 S) 17 (.inr (.inr (some (B + 11)))) = mz B 11 S := mz_up rfl (by decide)
theorem mz_12 (B : Nat) (S : Nat → Int) : va_up (mz B 11 S) 18 (.inr (.inr (some (B + 12)))) = mz B 12 S := mz_up rfl (by decide)
theorem mz_13 (B : Nat) (S : Nat → Int) : va_up (mz B 12 S) 20 (.inr (.inr (some (B + 13)))) = mz B 13 S := mz_up rfl (by decide)
theorem mz_14 (B : Nat) (S : Nat → Int) : va_up (mz B 13 S) 21 (.inr (.inr (some (B + 14)))) = mz B 14 S := mz_up rfl (by decide)
theorem mz_15 (B : Nat) (S : Nat → Int) : va_up (mz B 14 S) 24 (.inr (.inr (some (B + 15)))) = mz B 15 S := mz_up rfl (by decide)
theorem mz_16 (B : Nat) (S : Nat → Int) : va_up (mz B 15 S) 25 (.inr (.inr (some (B + 16)))) = mz B 16 S := mz_up rfl (by decide)
theorem mz_17 (B : Nat) (S : Nat → Int) : va_up (mz B 16 S) 26 (.inr (.inr (some (B + 17)))) = mz B 17 S := mz_up rfl (by decide)
theorem mz_18 (B : Nat) (S : Nat → Int) : va_up (mz B 17 S) 28 (.inr (.inr (some (B + 18)))) = mz B 18 S := mz_up rfl (by decide)
theorem mz_19 (B : Nat) (S : Nat → Int) : va_up (mz B 18 S) 29 (.inr (.inr (some (B + 19)))) = mz B 19 S := mz_up rfl (by decide)
theorem mz_20 (B : Nat) (S : Nat → Int) : va_up (mz B 19 S) 32 (.inr (.inr (some (B + 20)))) = mz B 20 S := mz_up rfl (by decide)
theorem mz_21 (B : Nat) (S : Nat → Int) : va_up (mz B 20 S) 37 (.inr (.inr (some (B + 21)))) = mz B 21 S := mz_up rfl (by decide)
theorem mz_22 (B : Nat) (S : Nat → Int) : va_up (mz B 21 S) 38 (.inr (.inr (some (B + 22)))) = mz B 22 S := mz_up rfl (by decide)
theorem mz_23 (B : Nat) (S : Nat → Int) : va_up (mz B 22 S) 39 (.inr (.inr (some (B + 23)))) = mz B 23 S := mz_up rfl (by decide)
theorem mz_24 (B : Nat) (S : Nat → Int) : va_up (mz B 23 S) 40 (.inr (.inr (some (B + 24)))) = mz B 24 S := mz_up rfl (by decide)
theorem mz_25 (B : Nat) (S : Nat → Int) : va_up (mz B 24 S) 41 (.inr (.inr (some (B + 25)))) = mz B 25 S := mz_up rfl (by decide)
theorem mz_26 (B : Nat) (S : Nat → Int) : va_up (mz B 25 S) 42 (.inr (.inr (some (B + 26)))) = mz B 26 S := mz_up rfl (by decide)
theorem mz_27 (B : Nat) (S : Nat → Int) : va_up (mz B 26 S) 43 (.inr (.inr (some (B + 27)))) = mz B 27 S := mz_up rfl (by decide)
theorem mz_28 (B : Nat) (S : Nat → Int) : va_up (mz B 27 S) 44 (.inr (.inr (some (B + 28)))) = mz B 28 S := mz_up rfl (by decide)
theorem mz_29 (B : Nat) (S : Nat → Int) : va_up (mz B 28 S) 46 (.inr (.inr (some (B + 29)))) = mz B 29 S := mz_up rfl (by decide)
theorem mz_30 (B : Nat) (S : Nat → Int) : va_up (mz B 29 S) 47 (.inr (.inr (some (B + 30)))) = mz B 30 S := mz_up rfl (by decide)
theorem mz_s30 (B i : Nat) (S : Nat → Int) (x : Int) : va_up (mz B i S) 30 (.inl x) = mz B i (va_up S 30 x) := mz_u x rfl (by decide)
theorem mz_s31 (B i : Nat) (S : Nat → Int) (x : Int) : va_up (mz B i S) 31 (.inl x) = mz B i (va_up S 31 x) := mz_u x rfl (by decide)
section MINIT
variable {g : sk_G} {d ck sk : Nat} {M : sk_M} {Q : sk_P} {B : Nat}
def mS0 : Nat → Int := va_up (va_up (fun _ => 0) 30 (-1)) 31 4
set_option maxRecDepth 20000 in
theorem m_init (hd : 3 ≤ d) (hc : 30 ≤ ck) (hc2 : 60000 ≤ sk) (hp : M.2 B = (12, 0, mz B 0 (fun _ => 0))) (ha : B + 1 = M.1) (hQ : ∀ M' : sk_M, M'.1 = B + 31 → (∀ q, q < B → M'.2 q = M.2 q) → md M' M' B mS0 (fun _ _ => 0) → Q none M') : sk_call g d ck sk xX12_init [.inr (.inr (some B))] M Q := by
  obtain ⟨N, m⟩ := M
  have ha' : N = B + 1 := ha.symm
  subst ha'
  replace hp : m B = (12, 0, mz B 0 (fun _ => 0)) := hp
  refine tX12_init_0 _ _ _ ?_
  simp (disch := omega) only [kX12_init_0, po_i, po_l, po_null, po_iload, po_lload, po_aload, po_istore, po_astore, po_iinc, po_iadd, po_isub, po_imul, po_ineg, po_iand, po_ior, po_ishl, po_ishr, po_iushr, po_idiv, po_irem, po_dup, po_dup2, po_pop, po_ifeq, po_ifne, po_iflt, po_ifge, po_ifgt, po_ifle, po_iceq, po_icne, po_iclt, po_icge, po_icgt, po_icle, po_ifnull, po_ifnull1, po_ret, po_iret, po_zret, po_lret, po_aret, po_getf, po_puti, po_putz, po_putl, po_puta, po_iaload, po_iastore, po_alen, po_baload, po_bastore, po_laload, po_lastore, po_aaload, po_aastore, po_invB, po_stcB, po_stcB0, po_iniB, po_new, po_newa, po_obj, po_ladd, po_lsub, po_lmul, po_ldiv, po_lrem, po_land, po_lor, po_lshl, po_lushr, po_i2l, po_l2i, po_i2c, po_lcmp, po_lstore, po_tsw, po_gets, po_max, po_min, po_maxl, po_minl, po_acopy, po_ixor, po_lds, po_slen, po_sidx, po_invT, po_stcT, po_stcT0, sk_swt, kX5_letterIn_0, kX5_handIn_0, kX5_strengthIn_0, kX5_weakened_0, kX5_codeAt_0, kX5_put_0, kX7_isSkin_0, kX7_wide_0, kX7_rows_0, kX7_legible_0, kX7_coinsAtFirst_0, kX7_cells_0, kX7_spots_0, kX7_hasCell_0, kX7_hasRow_0, kX7_hasHand_0, kX7_ofHand_0, kX7_firstOf_0, kX7_rowOf_0, kX7_placeOf_0, kX10_isLetter_0, kX10_signAt_0, kX8_writingAt_0, kX8_lawThatHolds_0, kX8_lets_0, kX9_rewind_0, kX9_step_0, kX9_stepBack_0, kX9_cut_0, kX3_clear_0, kX3_add_0, kX6_judge_0, kX6_swap_0, kX1_push_0, kX1_pop_0, kX0_forget_0, kX11_refuse_0, kX11_draw_0, kX12_in_0, kX12_has_0, kX12_here_0, kX12_bad_0, kX12_isDigit_0, kX12_isSign_0, kX12_isInk_0, kX12_of_0, kX12_setOf_0, kX12_isCell_0, kX12_isHand_0, kX12_isRow_0, kX12_isWriting_0, kX12_isLegible_0, kX12_signOf_0, kX12_areYears_0, kX12_isRefused_0, kX12_draw_0, sk_nth, sk_set, sk_lok, sk_isL, sk_one, sk_pop, sk_wt, sk_cat, sk_ent, sk_pad, sk_tl_n, sk_tl_s, List.length_cons, List.length_nil, true_and, and_true, Bool.not_false, sk_F_at, Option.getD_some, sk_w_id, sk_I_at, sk_isI, false_implies, true_implies, forall_const, ne_eq, not_true_eq_false, not_false_eq_true, implies_true, true_or, or_true, va_up_self, va_up_ne, va_up_up, sk_I_up, hp, Nat.add_assoc, Nat.reduceAdd, mz_1, mz_2, mz_3, mz_4, mz_5, mz_6, mz_7, mz_8, mz_9, mz_10, mz_11, mz_12, mz_13, mz_14, mz_15, mz_16, mz_17, mz_18, mz_19, mz_20, mz_21, mz_22, mz_23, mz_24, mz_25, mz_26, mz_27, mz_28, mz_29, mz_30, mz_s30, mz_s31]
  and_intros <;> intros <;> and_intros <;> intros <;> and_intros <;> intros <;> and_intros <;> intros <;> and_intros <;> intros <;> and_intros <;> intros <;> and_intros <;> intros <;> and_intros <;> intros <;> and_intros <;> intros <;> and_intros <;> intros <;> and_intros <;> intros <;> and_intros <;> intros <;> and_intros <;> try first | omega | rfl | assumption
  all_goals first | omega | skip
  refine hQ _ (by simp only [Nat.add_assoc, Nat.reduceAdd]) (fun q h3 => ?_) ⟨?_, ?_, rfl, fun _ _ => rfl⟩
  · simp (disch := omega) only [va_up_ne]
  · simp (disch := omega) only [va_up_ne, va_up_self]
    rw [mz_done]
    rfl
  · intro k k1 k2
    have : k = 1 ∨ k = 2 ∨ k = 3 ∨ k = 4 ∨ k = 5 ∨ k = 6 ∨ k = 7 ∨ k = 8 ∨ k = 9 ∨ k = 10 ∨ k = 11 ∨ k = 12 ∨ k = 13 ∨ k = 14 ∨ k = 15 ∨ k = 16 ∨ k = 17 ∨ k = 18 ∨ k = 19 ∨ k = 20 ∨ k = 21 ∨ k = 22 ∨ k = 23 ∨ k = 24 ∨ k = 25 ∨ k = 26 ∨ k = 27 ∨ k = 28 ∨ k = 29 ∨ k = 30 := by omega
    rcases this with rfl | rfl | rfl | rfl | rfl | rfl | rfl | rfl | rfl | rfl | rfl | rfl | rfl | rfl | rfl | rfl | rfl | rfl | rfl | rfl | rfl | rfl | rfl | rfl | rfl | rfl | rfl | rfl | rfl | rfl
    all_goals (simp (disch := omega) only [va_up_ne, va_up_self]; rfl)
end MINIT
