/-! ===== laws: the reference reads a law ===== -/
section MLZ
variable {g : sk_G} {d ck sk : Nat} {M0 M : sk_M} {Q : sk_P} {B : Nat} {S0 : Nat → Int} {Y : Nat → Int → Int} {i wr dp c : Int} {cd vl : Int → Int}
theorem mY_o (Y0 : Nat → Int → Int) (cd vl cds f : Int → Int) {k : Nat} (h2 : k ≠ 2) (h3 : k ≠ 3) (h4 : k ≠ 4) : va_up (mY Y0 cd vl cds) k f = mY (va_up Y0 k f) cd vl cds := by
  funext j
  unfold va_up mY
  by_cases h : j = k
  · subst h; simp [h2, h3, h4]
  · simp [h]
theorem mps_o {k : Nat} {f : Int → Int} (h : mps M0 B S0 Y M i wr dp c cd vl) (h1 : k = 5 ∨ k = 6 ∨ k = 7 ∨ k = 8) : mps M0 B S0 (va_up Y k f) (M.1, va_up M.2 (B + k) (20, md_len k, sk_I f)) i wr dp c cd vl := by
  obtain ⟨hm, hT, x0, x1, hz⟩ := h
  have h2 := md_arr k (f := f) (by omega) (by omega) hm
  rw [mY_o _ _ _ _ _ (by omega) (by omega) (by omega)] at h2
  have e1 : ∀ z, z = 1 ∨ z = 2 ∨ z = 3 ∨ z = 4 → va_up Y k f z = Y z := fun z hz => va_up_ne _ _ (by omega)
  have e2 : md_kd k = 20 := by unfold md_kd; rw [if_neg (by omega)]
  rw [e2] at h2
  refine ⟨?_, by rw [e1 1 (by omega)]; exact hT, x0, x1, fun j hj => by rw [e1 2 (by omega), e1 3 (by omega)]; exact hz j hj⟩
  rw [e1 4 (by omega)]
  exact h2
theorem mps_y5 (h : mps M0 B S0 Y M i wr dp c cd vl) : M.2 (B + 5) = (20, 5, sk_I (Y 5)) := by have := md_y5 h.1; exact this
theorem mps_y6 (h : mps M0 B S0 Y M i wr dp c cd vl) : M.2 (B + 6) = (20, 700, sk_I (Y 6)) := by have := md_y6 h.1; exact this
theorem mps_y7 (h : mps M0 B S0 Y M i wr dp c cd vl) : M.2 (B + 7) = (20, 700, sk_I (Y 7)) := by have := md_y7 h.1; exact this
theorem mps_y8 (h : mps M0 B S0 Y M i wr dp c cd vl) : M.2 (B + 8) = (20, 700, sk_I (Y 8)) := by have := md_y8 h.1; exact this
end MLZ
def lfl : List lq_C → List Int
  | [] => []
  | k :: r => (k.2.1 ++ k.2.2) ++ lfl r
def mlZ1 (x : Int) (Y : Nat → Int → Int) (q c : Int) (k : lq_C) : Nat → Int → Int := va_up (va_up (va_up (va_up Y 6 (sk_up (Y 6) (140 * x + q) c)) 7 (sk_up (Y 7) (140 * x + q) (c + k.2.1.length))) 8 (sk_up (Y 8) (140 * x + q) (c + (k.2.1 ++ k.2.2).length))) 5 (sk_up (Y 5) x (q + 1))
def mlZ (x : Int) : (Nat → Int → Int) → Int → Int → List lq_C → (Nat → Int → Int)
  | Y, _, _, [] => Y
  | Y, q, c, k :: r => mlZ x (mlZ1 x Y q c k) (q + 1) (c + (k.2.1 ++ k.2.2).length) r
/-- only of text x -/
def clz (x : Int) (Y Y' : Nat → Int → Int) : Prop := (∀ k, k ≠ 5 → k ≠ 6 → k ≠ 7 → k ≠ 8 → Y' k = Y k) ∧ (∀ j, j ≠ x → Y' 5 j = Y 5 j) ∧ ∀ j, j < 140 * x ∨ 140 * x + 140 ≤ j → Y' 6 j = Y 6 j ∧ Y' 7 j = Y 7 j ∧ Y' 8 j = Y 8 j
theorem clz_refl (x : Int) (Y : Nat → Int → Int) : clz x Y Y := ⟨fun _ _ _ _ _ => rfl, fun _ _ => rfl, fun _ _ => ⟨rfl, rfl, rfl⟩⟩
theorem clz_trans {x : Int} {Y Y' Y'' : Nat → Int → Int} (h : clz x Y Y') (h' : clz x Y' Y'') : clz x Y Y'' := ⟨fun k a b c d => (h'.1 k a b c d).trans (h.1 k a b c d), fun j hj => (h'.2.1 j hj).trans (h.2.1 j hj), fun j hj => ⟨(h'.2.2 j hj).1.trans (h.2.2 j hj).1, (h'.2.2 j hj).2.1.trans (h.2.2 j hj).2.1, (h'.2.2 j hj).2.2.trans (h.2.2 j hj).2.2⟩⟩
theorem clz_6 {x q v : Int} {Y : Nat → Int → Int} (h0 : 0 ≤ q) (h1 : q < 140) : clz x Y (va_up Y 6 (sk_up (Y 6) (140 * x + q) v)) := ⟨fun k _ h _ _ => va_up_ne _ _ h, fun j _ => rfl, fun j hj => ⟨by rw [va_up_self, sk_up_ne _ _ (by omega)], rfl, rfl⟩⟩
theorem clz_7 {x q v : Int} {Y : Nat → Int → Int} (h0 : 0 ≤ q) (h1 : q < 140) : clz x Y (va_up Y 7 (sk_up (Y 7) (140 * x + q) v)) := ⟨fun k _ _ h _ => va_up_ne _ _ h, fun j _ => rfl, fun j hj => ⟨rfl, by rw [va_up_self, sk_up_ne _ _ (by omega)], rfl⟩⟩
theorem clz_8 {x q v : Int} {Y : Nat → Int → Int} (h0 : 0 ≤ q) (h1 : q < 140) : clz x Y (va_up Y 8 (sk_up (Y 8) (140 * x + q) v)) := ⟨fun k _ _ _ h => va_up_ne _ _ h, fun j _ => rfl, fun j hj => ⟨rfl, rfl, by rw [va_up_self, sk_up_ne _ _ (by omega)]⟩⟩
theorem clz_5 {x v : Int} {Y : Nat → Int → Int} : clz x Y (va_up Y 5 (sk_up (Y 5) x v)) := ⟨fun k h _ _ _ => va_up_ne _ _ h, fun j hj => by rw [va_up_self, sk_up_ne _ _ hj], fun j hj => ⟨rfl, rfl, rfl⟩⟩
section LAWT
variable {g : sk_G} {d ck sk : Nat} {M0 M : sk_M} {Q : sk_P} {B : Nat} {S0 : Nat → Int} {Y : Nat → Int → Int} {i wr dp c q : Int} {cd vl : Int → Int}
theorem mz_sum (h : mps M0 B S0 Y M i (-1) 0 c cd vl) (i0 : 0 ≤ i) (i1 : i ≤ S0 2) (c0 : 0 ≤ c) (c1 : c ≤ i) (hd : 100 ≤ d) (hQ : mpQ M0 B S0 Y (lp (Y 1) (S0 2) LF 3 0 i) 0 i c cd vl Q) : sk_call g d 0 0 xX12_sum [.inr (.inr (some B))] M Q := by
  have hn := h.2.1.2.1
  exact (m_all LF).2.2.2.1 d Q M 0 i c cd vl h (by omega) (by omega) i0 i1 c0 c1 (by show 3 + 12 * (S0 2 - i) ≤ ((3000 : Nat) : Int); omega) (by omega) hQ
theorem mz_cond (h : mps M0 B S0 Y M i (-1) 0 c cd vl) (i0 : 0 ≤ i) (i1 : i ≤ S0 2) (c0 : 0 ≤ c) (c1 : c ≤ i) (hd : 100 ≤ d) (hQ : mpQ M0 B S0 Y (lp (Y 1) (S0 2) LF 9 0 i) 0 i c cd vl Q) : sk_call g d 0 0 xX12_condition [.inr (.inr (some B))] M Q := by
  have hn := h.2.1.2.1
  exact (m_all LF).2.2.2.2.2.2.2.2.2 d Q M 0 i c cd vl h (by omega) (by omega) i0 i1 c0 c1 (by show 5 + 12 * (S0 2 - i) ≤ ((3000 : Nat) : Int); omega) (by omega) hQ
theorem mz_cmp (h : mps M0 B S0 Y M i (-1) 0 c cd vl) (i0 : 0 ≤ i) (i1 : i ≤ S0 2) (c0 : 0 ≤ c) (c1 : c ≤ i) (hd : 100 ≤ d) (hQ : mpQ M0 B S0 Y (lp (Y 1) (S0 2) LF 5 0 i) 0 i c cd vl Q) : sk_call g d 0 0 xX12_compare [.inr (.inr (some B))] M Q := by
  have hn := h.2.1.2.1
  exact (m_all LF).2.2.2.2.2.1 d Q M 0 i c cd vl h (by omega) (by omega) i0 i1 c0 c1 (by show 1 + 12 * (S0 2 - i) ≤ ((3000 : Nat) : Int); omega) (by omega) hQ
theorem mz_and (h : mps M0 B S0 Y M i (-1) 0 c cd vl) (i0 : 0 ≤ i) (i1 : i ≤ S0 2) (c0 : 0 ≤ c) (c1 : c ≤ i) (hd : 100 ≤ d) (hQ : mpQ M0 B S0 Y (lp (Y 1) (S0 2) LF 7 0 i) 0 i c cd vl Q) : sk_call g d 0 0 xX12_goOnAnd [.inr (.inr (some B))] M Q := by
  have hn := h.2.1.2.1
  exact (m_all LF).2.2.2.2.2.2.2.1 d Q M 0 i c cd vl h (by omega) (by omega) i0 i1 c0 c1 (by show 1 + 12 * (S0 2 - i) ≤ ((3000 : Nat) : Int); omega) (by omega) hQ
theorem mz_or (h : mps M0 B S0 Y M i (-1) 0 c cd vl) (i0 : 0 ≤ i) (i1 : i ≤ S0 2) (c0 : 0 ≤ c) (c1 : c ≤ i) (hd : 100 ≤ d) (hQ : mpQ M0 B S0 Y (lp (Y 1) (S0 2) LF 8 0 i) 0 i c cd vl Q) : sk_call g d 0 0 xX12_goOnOr [.inr (.inr (some B))] M Q := by
  have hn := h.2.1.2.1
  exact (m_all LF).2.2.2.2.2.2.2.2.1 d Q M 0 i c cd vl h (by omega) (by omega) i0 i1 c0 c1 (by show 1 + 12 * (S0 2 - i) ≤ ((3000 : Nat) : Int); omega) (by omega) hQ
/-- what is wanted behind a clause -/
def mqQ (M0 : sk_M) (B : Nat) (S0 : Nat → Int) (Y : Nat → Int → Int) (r : lq_R) (q c : Int) (cd vl : Int → Int) (Q : sk_P) : Prop :=
  (r.1 = true → ∀ M', mps M0 B S0 (mlZ1 (S0 14) Y q c r.2.2) M' r.2.1 (-1) 0 (c + (r.2.2.2.1 ++ r.2.2.2.2).length) (lp_app cd (520 * S0 14 + c) ((r.2.2.2.1 ++ r.2.2.2.2).map (fun x => x % 16))) (lp_app vl (520 * S0 14 + c) ((r.2.2.2.1 ++ r.2.2.2.2).map (fun x => x / 16))) → Q none M') ∧
  (r.1 = false → ∀ M' Y' i' dp' c' cd' vl', clz (S0 14) Y Y' → mps M0 B S0 Y' M' i' r.2.1 dp' c' cd' vl' → Q none M')
/-- the end of a clause -/
theorem mz_251 {Z : Nat → Int → Int} {b : Int} {k : lq_C} (h : mps M0 B S0 Z M i wr dp c cd vl) (q0 : 0 ≤ q) (q1 : q < 140) (hq : Z 5 (S0 14) = q) (hQ : ∀ M', mps M0 B S0 (va_up (va_up Z 8 (sk_up (Z 8) (140 * S0 14 + q) c)) 5 (sk_up (Z 5) (S0 14) (q + 1))) M' i wr dp c cd vl → Q none M') : sk_B (g, d, ck, sk, xX12_clause, Q) 251 [some (.inr (.inr (some B))), some (.inl (140 * S0 14 + q)), some (.inl b)] [] M := by
  have p1 := h.1.1
  have y4 := mps_y4 h
  have y5 := mps_y5 h
  have y8 := mps_y8 h
  obtain ⟨hm, hT, x0, x1, hz⟩ := h
  have h2 := mps_o (k := 5) (f := sk_up (Z 5) (S0 14) (q + 1)) (mps_o (k := 8) (f := sk_up (Z 8) (140 * S0 14 + q) c) ⟨hm, hT, x0, x1, hz⟩ (by omega)) (by omega)
  have hR := hQ _ h2
  refine tX12_clause_251 _ _ _ ?_
  simp (disch := omega) only [kX12_clause_251, po_i, po_l, po_null, po_iload, po_lload, po_aload, po_istore, po_astore, po_iinc, po_iadd, po_isub, po_imul, po_ineg, po_iand, po_ior, po_ishl, po_ishr, po_iushr, po_idiv, po_irem, po_dup, po_dup2, po_pop, po_ifeq, po_ifne, po_iflt, po_ifge, po_ifgt, po_ifle, po_iceq, po_icne, po_iclt, po_icge, po_icgt, po_icle, po_ifnull, po_ifnull1, po_ret, po_iret, po_zret, po_lret, po_aret, po_getf, po_puti, po_putz, po_putl, po_puta, po_iaload, po_iastore, po_alen, po_baload, po_bastore, po_laload, po_lastore, po_aaload, po_aastore, po_invB, po_stcB, po_stcB0, po_iniB, po_new, po_newa, po_obj, po_ladd, po_lsub, po_lmul, po_ldiv, po_lrem, po_land, po_lor, po_lshl, po_lushr, po_i2l, po_l2i, po_i2c, po_lcmp, po_lstore, po_tsw, po_gets, po_max, po_min, po_maxl, po_minl, po_acopy, po_ixor, po_lds, po_slen, po_sidx, po_invT, po_stcT, po_stcT0, sk_swt, kX5_letterIn_0, kX5_handIn_0, kX5_strengthIn_0, kX5_weakened_0, kX5_codeAt_0, kX5_put_0, kX7_isSkin_0, kX7_wide_0, kX7_rows_0, kX7_legible_0, kX7_coinsAtFirst_0, kX7_cells_0, kX7_spots_0, kX7_hasCell_0, kX7_hasRow_0, kX7_hasHand_0, kX7_ofHand_0, kX7_firstOf_0, kX7_rowOf_0, kX7_placeOf_0, kX10_isLetter_0, kX10_signAt_0, kX8_writingAt_0, kX8_lawThatHolds_0, kX8_lets_0, kX9_rewind_0, kX9_step_0, kX9_stepBack_0, kX9_cut_0, kX3_clear_0, kX3_add_0, kX6_judge_0, kX6_swap_0, kX1_push_0, kX1_pop_0, kX0_forget_0, kX11_refuse_0, kX11_draw_0, kX12_in_0, kX12_has_0, kX12_here_0, kX12_bad_0, kX12_isDigit_0, kX12_isSign_0, kX12_isInk_0, kX12_of_0, kX12_setOf_0, kX12_isCell_0, kX12_isHand_0, kX12_isRow_0, kX12_isWriting_0, kX12_isLegible_0, kX12_signOf_0, kX12_areYears_0, kX12_isRefused_0, kX12_draw_0, sk_nth, sk_set, sk_lok, sk_isL, sk_one, sk_pop, sk_wt, sk_cat, sk_ent, sk_pad, sk_tl_n, sk_tl_s, List.length_cons, List.length_nil, true_and, and_true, Bool.not_false, sk_F_at, Option.getD_some, sk_w_id, sk_I_at, sk_isI, false_implies, true_implies, forall_const, ne_eq, not_true_eq_false, not_false_eq_true, implies_true, true_or, or_true, va_up_self, va_up_ne, va_up_up, sk_I_up, p1, y4, y5, y8, md_F0, md_F1, md_F2, md_F3, md_F4, md_F5, md_F6, md_F7, md_F8, md_F9, md_F10, md_F11, md_F12, md_F13, md_F14, md_F15, md_F16, md_F17, md_F18, md_F19, md_F20, md_F21, md_F22, md_F23, md_F24, md_F25, md_F26, md_F27, md_F28, md_F29, md_F30, md_F31, md_F32, md_F33, md_F34, md_F35, md_F36, md_F37, md_F38, md_F39, md_F40, md_F41, md_F42, md_F43, md_F44, md_F45, md_F46, md_F47, md_F48, md_u0, md_u2, md_u3, md_u4, md_u5, md_u13, md_u14, md_u19, md_u22, md_u23, md_u27, md_u30, md_u31, md_u33, md_u35, md_u36, md_u45, md_u48, md_upl, mS_14, sk_up_self, hq]
  and_intros <;> intros <;> and_intros <;> intros <;> and_intros <;> intros <;> and_intros <;> intros <;> and_intros <;> intros <;> and_intros <;> intros <;> and_intros <;> intros <;> and_intros <;> intros <;> and_intros <;> try first | omega | rfl | assumption
end LAWT
