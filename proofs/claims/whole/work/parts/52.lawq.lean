/-! ===== laws: clauses ===== -/
def LF : Nat := 3000
abbrev lq_C : Type := Bool × List Int × List Int
abbrev lq_R : Type := Bool × Int × lq_C
def lq_cmp (T : Int → Int) (n k : Int) : lp_R := lp_b (lp T n LF 5 0 k) (fun k cs => lp_b (lp T n LF 7 0 k) (fun k2 cs2 => lp_b (lp T n LF 8 0 k2) (fun k3 cs3 => (true, k3, cs ++ (cs2 ++ cs3)))))
/-- behind a condition -/
def lq_fin (T : Int → Int) (n : Int) (r : lp_R) : lq_R :=
  if r.1 = true then (if tp_ch T n (tp_skip T n r.2.1) = 63 then ((lp T n LF 3 0 (tp_skip T n r.2.1 + 1)).1, (lp T n LF 3 0 (tp_skip T n r.2.1 + 1)).2.1, true, r.2.2, (lp T n LF 3 0 (tp_skip T n r.2.1 + 1)).2.2) else (false, tp_skip T n r.2.1, true, [], [])) else (false, r.2.1, true, [], [])
def lq_sg (c : Int) : Prop := c = 61 ∨ c = 60 ∨ c = 62
def lq_at (T : Int → Int) (n m : Int) : lq_R :=
  if tp_ch T n (tp_skip T n m) = 33 ∨ tp_ch T n (tp_skip T n m) = 40 then lq_fin T n (lp T n LF 9 0 m)
  else if (lp T n LF 3 0 m).1 = true then
    (if tp_ch T n (tp_skip T n (lp T n LF 3 0 m).2.1) = 61 ∨ tp_ch T n (tp_skip T n (lp T n LF 3 0 m).2.1) = 60 ∨ tp_ch T n (tp_skip T n (lp T n LF 3 0 m).2.1) = 62 then lq_fin T n (lp_b (lq_cmp T n (lp T n LF 3 0 m).2.1) (fun k cs => (true, k, (lp T n LF 3 0 m).2.2 ++ cs)))
     else (true, tp_skip T n (lp T n LF 3 0 m).2.1, false, [], (lp T n LF 3 0 m).2.2))
  else (false, (lp T n LF 3 0 m).2.1, false, [], [])
/-- a clause -/
def lq (T : Int → Int) (n i : Int) : lq_R :=
  if tp_ch T n (tp_skip T n i) = 121 then
    (if tp_ch T n (tp_skip T n (tp_skip T n i + 1)) = 58 then lq_at T n (tp_skip T n (tp_skip T n i + 1) + 1) else (false, tp_skip T n (tp_skip T n i + 1), false, [], []))
  else (false, tp_skip T n i, false, [], [])
/-- the clause as steps, from place p on -/
def lq_e (p : Int) (q : lq_C) : List Int := if q.1 = true then q.2.1 ++ (12 + 16 * (p + q.2.1.length + 1 + q.2.2.length + 1)) :: (q.2.2 ++ [13]) else q.2.2 ++ [13]
def lr (T : Int → Int) (n : Int) : Nat → Int → Bool × Int × List lq_C
  | 0, i => (false, tp_skip T n i, [])
  | k + 1, i => if (lq T n i).1 = true then
      (if tp_ch T n (tp_skip T n (lq T n i).2.1) = -1 then (true, tp_skip T n (lq T n i).2.1, [(lq T n i).2.2])
       else if tp_ch T n (tp_skip T n (lq T n i).2.1) = 59 then ((lr T n k (tp_skip T n (lq T n i).2.1 + 1)).1, (lr T n k (tp_skip T n (lq T n i).2.1 + 1)).2.1, (lq T n i).2.2 :: (lr T n k (tp_skip T n (lq T n i).2.1 + 1)).2.2)
       else (false, tp_skip T n (lq T n i).2.1, []))
    else (false, (lq T n i).2.1, [])
theorem lp_skip6 (T : Int → Int) (n : Int) (F : Nat) (w i : Int) : lp T n F 6 w (tp_skip T n i) = lp T n F 6 w i := by
  cases F with
  | zero => simp only [lp, tp_skip_skip]
  | succ F => simp only [lp, tp_skip_skip]; rw [lp_skip T n F 3 w i (by omega)]
theorem lp_skip9 (T : Int → Int) (n : Int) (F : Nat) (w i : Int) : lp T n F 9 w (tp_skip T n i) = lp T n F 9 w i := by
  cases F with
  | zero => simp only [lp, tp_skip_skip]
  | succ F => simp only [lp]; rw [lp_skip6]
theorem lp_skip5 (T : Int → Int) (n : Int) (F : Nat) (w i : Int) : lp T n F 5 w (tp_skip T n i) = lp T n F 5 w i := by
  cases F with
  | zero => simp only [lp, tp_skip_skip]
  | succ F => simp only [lp, tp_skip_skip]
theorem lq_cmp_ok {T : Int → Int} {n k : Int} (hT : tp_ok T n) (k0 : 0 ≤ k) (k1 : k ≤ n) : lp_ok n true k (lq_cmp T n k) := by
  have h := lp_ok_seq (n := n) (f := fun k2 => lp T n LF 8 0 k2) (lp_ok_seq (n := n) (f := fun k2 => lp T n LF 7 0 k2) (lp_prog T n hT LF 5 0 k k0 k1 (by omega)) (fun k2 e1 e2 => lp_prog T n hT LF 7 0 k2 (by omega) e2 (by omega))) (fun k2 e1 e2 => lp_prog T n hT LF 8 0 k2 (by omega) e2 (by omega))
  unfold lq_cmp
  simp only [lp_b_b, lp_b_tt, List.append_assoc] at h
  exact h
theorem lq_fin_in {T : Int → Int} {n i : Int} {r : lp_R} (hT : tp_ok T n) (i0 : 0 ≤ i) (h : lp_ok n true (i + 2) r) (p : Int) : i ≤ (lq_fin T n r).2.1 ∧ (lq_fin T n r).2.1 ≤ n ∧ ((lq_fin T n r).1 = true → i + 2 < (lq_fin T n r).2.1 ∧ ((lq_e p (lq_fin T n r).2.2).length : Int) ≤ (lq_fin T n r).2.1 - i) := by
  obtain ⟨h1, h2, h3⟩ := h
  unfold lq_fin
  by_cases e : r.1 = true
  · rw [if_pos e]
    have k1 := tp_skip_ge T n r.2.1
    have k2 := tp_skip_le T h2
    have k3 := tp_ch_in (i := tp_skip T n r.2.1) hT (by omega)
    obtain ⟨h4, h5⟩ := h3 e
    by_cases e2 : tp_ch T n (tp_skip T n r.2.1) = 63
    · rw [if_pos e2]
      have hs := lp_prog T n hT LF 3 0 (tp_skip T n r.2.1 + 1) (by omega) (by omega) (by omega)
      obtain ⟨s1, s2, s3⟩ := hs
      refine ⟨by simp only []; omega, s2, fun e3 => ?_⟩
      have := s3 e3
      refine ⟨by simp only []; omega, ?_⟩
      unfold lq_e
      rw [if_pos rfl]
      simp only [List.length_append, List.length_cons, List.length_nil]
      omega
    · rw [if_neg e2]
      exact ⟨by simp only []; omega, by simp only []; omega, fun e => by simp at e⟩
  · rw [if_neg e]
    exact ⟨by simp only []; omega, h2, fun e => by simp at e⟩
theorem lq_in {T : Int → Int} {n i : Int} (hT : tp_ok T n) (i0 : 0 ≤ i) (i1 : i ≤ n) (p : Int) : i ≤ (lq T n i).2.1 ∧ (lq T n i).2.1 ≤ n ∧ ((lq T n i).1 = true → i + 2 < (lq T n i).2.1 ∧ ((lq_e p (lq T n i).2.2).length : Int) ≤ (lq T n i).2.1 - i) := by
  have a1 := tp_skip_ge T n i
  have a2 := tp_skip_le T i1
  have a3 := tp_ch_in (i := tp_skip T n i) hT (by omega)
  unfold lq
  by_cases e1 : tp_ch T n (tp_skip T n i) = 121
  · rw [if_pos e1]
    have b1 := tp_skip_ge T n (tp_skip T n i + 1)
    have b2 := tp_skip_le T (show tp_skip T n i + 1 ≤ n by omega)
    have b3 := tp_ch_in (i := tp_skip T n (tp_skip T n i + 1)) hT (by omega)
    by_cases e2 : tp_ch T n (tp_skip T n (tp_skip T n i + 1)) = 58
    · rw [if_pos e2]
      have hm1 : i + 2 ≤ tp_skip T n (tp_skip T n i + 1) + 1 := by omega
      have hm2 : tp_skip T n (tp_skip T n i + 1) + 1 ≤ n := by omega
      generalize tp_skip T n (tp_skip T n i + 1) + 1 = m at *
      have wk : ∀ {r : lp_R} {k : Int}, i + 2 ≤ k → lp_ok n true k r → lp_ok n true (i + 2) r := fun hk h => ⟨by have := h.1; omega, h.2.1, fun e => by have := h.2.2 e; exact ⟨fun e2 => by have := this.1 e2; omega, by omega⟩⟩
      unfold lq_at
      split
      · exact lq_fin_in hT i0 (wk hm1 (lp_prog T n hT LF 9 0 m (by omega) hm2 (by omega))) p
      · have hs := lp_prog T n hT LF 3 0 m (by omega) hm2 (by omega)
        obtain ⟨s1, s2, s3⟩ := hs
        split
        · next e3 =>
          have s4 := s3 e3
          have s5 := s4.1 rfl
          have c1 := tp_skip_ge T n (lp T n LF 3 0 m).2.1
          have c2 := tp_skip_le T s2
          split
          · refine lq_fin_in hT i0 (lp_ok_b (lq_cmp_ok hT (by omega) s2) (by omega) (fun e4 => ?_)) p
            have hq := lq_cmp_ok hT (k := (lp T n LF 3 0 m).2.1) (by omega) s2
            have hq2 := hq.2.2 e4
            have hq3 := hq2.1 rfl
            have hq4 := hq.2.1
            exact ⟨by simp only []; omega, hq4, fun _ => ⟨fun _ => by simp only []; omega, by simp only [List.length_append]; omega⟩⟩
          · refine ⟨by simp only []; omega, c2, fun _ => ⟨by simp only []; omega, ?_⟩⟩
            unfold lq_e
            rw [if_neg (by simp)]
            simp only [List.length_append, List.length_cons, List.length_nil]
            omega
        · exact ⟨by simp only []; omega, s2, fun e => by simp at e⟩
    · rw [if_neg e2]
      exact ⟨by simp only []; omega, by simp only []; omega, fun e => by simp at e⟩
  · rw [if_neg e1]
    exact ⟨by simp only []; omega, by simp only []; omega, fun e => by simp at e⟩
theorem lp_app_lo (st : Int → Int) : ∀ (y : List Int) (p q b : Int), p < q → sk_up (lp_app st q y) p b = lp_app (sk_up st p b) q y
  | [], p, q, b, h => rfl
  | c :: r, p, q, b, h => by
    simp only [lp_app]
    rw [lp_app_lo _ r p (q + 1) b (by omega)]
    congr 1
    funext j
    unfold sk_up
    by_cases e : j = p
    · subst e; rw [if_pos rfl, if_neg (by omega), if_pos rfl]
    · rw [if_neg e, if_neg e]
theorem lp_app_set (st : Int → Int) (len a b : Int) (x y : List Int) : sk_up (lp_app st len (x ++ a :: y)) (len + x.length) b = lp_app st len (x ++ b :: y) := by
  rw [lp_app_app, lp_app_app]
  simp only [lp_app]
  rw [lp_app_lo _ _ _ _ _ (by omega), sk_up_up]
section LAWQ
variable {g : sk_G} {d ck sk : Nat} {M M0 : sk_M} {Q : sk_P} {a sa la ka ta tb : Nat} {top n i len : Int} {T st : Int → Int}
theorem lps_patch {f : Int → Int} (h : lps M0 a sa la ka ta tb top T n M i len st) : lps M0 a sa la ka ta tb top T n (M.1, va_up M.2 sa (20, 240, sk_I f)) i len f := by
  obtain ⟨h1, h2, h3, h4, h5, h6⟩ := h
  have n2 : ta ≠ sa := by rintro rfl; have := h1.1; rw [h3] at this; simp at this
  have n3 : a ≠ sa := by rintro rfl; rw [h2] at h3; simp at h3
  exact ⟨⟨(va_up_ne _ _ n2).trans h1.1, (va_up_ne _ _ (Ne.symm h5)).trans h1.2⟩, (va_up_ne _ _ n3).trans h2, va_up_self _ _ _, h4.put (Or.inr (Or.inr rfl)), h5, h6⟩
theorem lz_condition1 (h : lps M0 a sa la ka ta tb top T n M i len st) (i0 : 0 ≤ i) (i1 : i ≤ n) (l0 : 0 ≤ len) (l1 : len ≤ i) (hd : 100 ≤ d) (hQ : lcQ M0 a sa la ka ta tb top T n (lq_cmp T n i) len st Q) : sk_call g d 0 0 xX1_readCondition [.inr (.inr (some a)), .inr (.inr (some ta)), .inl 0, .inl 1] M Q := by
  have hT := h.2.2.2.2.2
  have hn := hT.2.1
  obtain ⟨c0, c1, c2, c3, c4, c5, c6, c7, c8, c9⟩ := lc_all (g := g) (M0 := M0) (a := a) (sa := sa) (la := la) (ka := ka) (ta := ta) (tb := tb) (top := top) hT LF
  have p5 : ∀ w i, 0 ≤ i → i ≤ n → lp_ok n true i (lp T n LF 5 w i) := fun w i i0 i1 => lp_prog T n hT LF 5 w i i0 i1 (by omega)
  have p7 : ∀ w i, 0 ≤ i → i ≤ n → lp_ok n false i (lp T n LF 7 w i) := fun w i i0 i1 => lp_prog T n hT LF 7 w i i0 i1 (by omega)
  have htr := lc_truth (b := 1) p5 (lc_unit1 c5) c7
  have ptr : ∀ w i, 0 ≤ i → i ≤ n → lp_ok n true i (lp_b (lp T n LF 5 w i) (fun k cs => lp_b (lp T n LF 7 w k) (fun k2 cs2 => (true, k2, cs ++ cs2)))) := fun w i i0 i1 => lp_ok_seq (p5 w i i0 i1) (fun k k0 k1 => p7 w k (by omega) k1)
  have hco := lc_cond (b := 1) ptr htr c8
  refine hco d Q M 0 i len st h (by omega) (by omega) i0 i1 l0 l1 (by show 4 + 12 * (n - i) ≤ ((3000 : Nat) : Int); omega) (by omega) ?_
  unfold lq_cmp at hQ
  simp only [lp_b_b, lp_b_tt, List.append_assoc]
  exact hQ
theorem lz_sum (h : lps M0 a sa la ka ta tb top T n M i len st) (i0 : 0 ≤ i) (i1 : i ≤ n) (l0 : 0 ≤ len) (l1 : len ≤ i) (hd : 100 ≤ d) (hQ : lcQ M0 a sa la ka ta tb top T n (lp T n LF 3 0 i) len st Q) : sk_call g d 0 0 xX1_readSum [.inr (.inr (some a)), .inr (.inr (some ta)), .inl 0] M Q := by
  have hT := h.2.2.2.2.2
  have hn := hT.2.1
  exact (lc_all hT LF).2.2.2.1 d Q M 0 i len st h (by omega) (by omega) i0 i1 l0 l1 (by show 3 + 12 * (n - i) ≤ ((3000 : Nat) : Int); omega) (by omega) hQ
theorem lz_condition0 (h : lps M0 a sa la ka ta tb top T n M i len st) (i0 : 0 ≤ i) (i1 : i ≤ n) (l0 : 0 ≤ len) (l1 : len ≤ i) (hd : 100 ≤ d) (hQ : lcQ M0 a sa la ka ta tb top T n (lp T n LF 9 0 i) len st Q) : sk_call g d 0 0 xX1_readCondition [.inr (.inr (some a)), .inr (.inr (some ta)), .inl 0, .inl 0] M Q := by
  have hT := h.2.2.2.2.2
  have hn := hT.2.1
  exact (lc_all hT LF).2.2.2.2.2.2.2.2.2 d Q M 0 i len st h (by omega) (by omega) i0 i1 l0 l1 (by show 5 + 12 * (n - i) ≤ ((3000 : Nat) : Int); omega) (by omega) hQ
/-- what is wanted behind a clause -/
def lqQ (M0 : sk_M) (a sa la ka ta tb : Nat) (top : Int) (T : Int → Int) (n : Int) (r : lq_R) (len : Int) (st : Int → Int) (Q : sk_P) : Prop :=
  (r.1 = true → ∀ M', lps M0 a sa la ka ta tb top T n M' r.2.1 (len + (lq_e len r.2.2).length) (lp_app st len (lq_e len r.2.2)) → Q (some (.inl 1)) M') ∧ (r.1 = false → ∀ M' len' st', lps M0 a sa la ka ta tb top T n M' r.2.1 len' st' → Q (some (.inl 0)) M')
/-- from behind the condition on -/
theorem lz_c68 {b len0 : Int} {st0 : Int → Int} {cs : List Int} {r : lp_R} (hd : 110 ≤ d) (hb : b = 0 ∨ b = 1) (i0 : 0 ≤ i) (hr : lp_ok n true i r) (l0 : 0 ≤ len0) (hl : len0 + cs.length + (if r.1 = true then (r.2.2.length : Int) else 0) + 1 ≤ r.2.1) (hlen : len = len0 + cs.length) (hst : st = lp_app st0 len0 cs) (hT : tp_ok T n)
    (hcall : ∀ Q', lcQ M0 a sa la ka ta tb top T n r len st Q' → sk_call g (d - 1) 0 0 xX1_readCondition [.inr (.inr (some a)), .inr (.inr (some ta)), .inl 0, .inl b] M Q')
    (p1 : M.2 a = (1, 0, sk_F [.inr (.inr (some sa)), .inl len, .inr (.inr (some la)), .inr (.inr (some ka)), .inl top]))
    (hQ : lqQ M0 a sa la ka ta tb top T n (lq_fin T n (lp_b r (fun k c2 => (true, k, cs ++ c2)))) len0 st0 Q) : sk_B (g, d, 0, 0, xX1_readClause, Q) 68 [some (.inr (.inr (some a))), some (.inr (.inr (some ta))), some (.inl b), none] [] M := by
  have hn := hT.2.1
  subst hlen hst
  refine tX1_readClause_68 _ _ _ ?_
  simp (disch := omega) only [kX1_readClause_68, po_i, po_l, po_null, po_iload, po_lload, po_aload, po_istore, po_astore, po_iinc, po_iadd, po_isub, po_imul, po_ineg, po_iand, po_ior, po_ishl, po_ishr, po_iushr, po_idiv, po_irem, po_dup, po_dup2, po_pop, po_ifeq, po_ifne, po_iflt, po_ifge, po_ifgt, po_ifle, po_iceq, po_icne, po_iclt, po_icge, po_icgt, po_icle, po_ifnull, po_ifnull1, po_ret, po_iret, po_zret, po_lret, po_aret, po_getf, po_puti, po_putz, po_putl, po_puta, po_iaload, po_iastore, po_alen, po_baload, po_bastore, po_laload, po_lastore, po_aaload, po_aastore, po_invB, po_stcB, po_stcB0, po_iniB, po_new, po_newa, po_obj, po_ladd, po_lsub, po_lmul, po_ldiv, po_lrem, po_land, po_lor, po_lshl, po_lushr, po_i2l, po_l2i, po_i2c, po_lcmp, po_lstore, po_tsw, po_gets, po_max, po_min, po_maxl, po_minl, po_acopy, po_ixor, po_lds, po_slen, po_sidx, po_invT, po_stcT, po_stcT0, sk_swt, kX5_letterIn_0, kX5_handIn_0, kX5_strengthIn_0, kX5_weakened_0, kX5_codeAt_0, kX5_put_0, kX7_isSkin_0, kX7_wide_0, kX7_rows_0, kX7_legible_0, kX7_coinsAtFirst_0, kX7_cells_0, kX7_spots_0, kX7_hasCell_0, kX7_hasRow_0, kX7_hasHand_0, kX7_ofHand_0, kX7_firstOf_0, kX7_rowOf_0, kX7_placeOf_0, kX10_isLetter_0, kX10_signAt_0, kX8_writingAt_0, kX8_lawThatHolds_0, kX8_lets_0, kX9_rewind_0, kX9_step_0, kX9_stepBack_0, kX9_cut_0, kX3_clear_0, kX3_add_0, kX6_judge_0, kX6_swap_0, kX1_push_0, kX1_pop_0, kX0_forget_0, kX11_refuse_0, kX11_draw_0, kX12_in_0, kX12_has_0, kX12_here_0, kX12_bad_0, kX12_isDigit_0, kX12_isSign_0, kX12_isInk_0, kX12_of_0, kX12_setOf_0, kX12_isCell_0, kX12_isHand_0, kX12_isRow_0, kX12_isWriting_0, kX12_isLegible_0, kX12_signOf_0, kX12_areYears_0, kX12_isRefused_0, kX12_draw_0, sk_nth, sk_set, sk_lok, sk_isL, sk_one, sk_pop, sk_wt, sk_cat, sk_ent, sk_pad, sk_tl_n, sk_tl_s, List.length_cons, List.length_nil, true_and, and_true, Bool.not_false, sk_F_at, Option.getD_some, sk_w_id, sk_I_at, sk_isI, false_implies, true_implies, forall_const, ne_eq, not_true_eq_false, not_false_eq_true, implies_true, true_or, or_true, va_up_self, va_up_ne, va_up_up, sk_I_up, p1]
  and_intros <;> intros <;> and_intros <;> intros <;> and_intros <;> intros <;> and_intros <;> intros <;> and_intros <;> intros <;> and_intros <;> intros <;> and_intros <;> intros <;> and_intros <;> intros <;> and_intros <;> try first | omega | rfl | assumption
  refine hcall _ ⟨fun er M2 h2 => ?_, fun er M2 len2 st2 h2 => ?_⟩
  · rw [lp_b_t er] at hQ
    rw [if_pos er] at hl
    have hr4 := hr.2.1
    have hr1 := hr.1
    have p2 := h2.1.1
    unfold lq_fin at hQ
    rw [if_pos rfl] at hQ
    replace hQ : lqQ M0 a sa la ka ta tb top T n (if tp_ch T n (tp_skip T n r.2.1) = 63 then ((lp T n LF 3 0 (tp_skip T n r.2.1 + 1)).1, (lp T n LF 3 0 (tp_skip T n r.2.1 + 1)).2.1, true, cs ++ r.2.2, (lp T n LF 3 0 (tp_skip T n r.2.1 + 1)).2.2) else (false, tp_skip T n r.2.1, true, [], [])) len0 st0 Q := hQ
    have k1 := tp_skip_ge T n r.2.1
    have k2 := tp_skip_le T hr4
    have k3 := tp_ch_in (i := tp_skip T n r.2.1) hT (by omega)
    simp (disch := omega) only [po_i, po_l, po_null, po_iload, po_lload, po_aload, po_istore, po_astore, po_iinc, po_iadd, po_isub, po_imul, po_ineg, po_iand, po_ior, po_ishl, po_ishr, po_iushr, po_idiv, po_irem, po_dup, po_dup2, po_pop, po_ifeq, po_ifne, po_iflt, po_ifge, po_ifgt, po_ifle, po_iceq, po_icne, po_iclt, po_icge, po_icgt, po_icle, po_ifnull, po_ifnull1, po_ret, po_iret, po_zret, po_lret, po_aret, po_getf, po_puti, po_putz, po_putl, po_puta, po_iaload, po_iastore, po_alen, po_baload, po_bastore, po_laload, po_lastore, po_aaload, po_aastore, po_invB, po_stcB, po_stcB0, po_iniB, po_new, po_newa, po_obj, po_ladd, po_lsub, po_lmul, po_ldiv, po_lrem, po_land, po_lor, po_lshl, po_lushr, po_i2l, po_l2i, po_i2c, po_lcmp, po_lstore, po_tsw, po_gets, po_max, po_min, po_maxl, po_minl, po_acopy, po_ixor, po_lds, po_slen, po_sidx, po_invT, po_stcT, po_stcT0, sk_swt, kX5_letterIn_0, kX5_handIn_0, kX5_strengthIn_0, kX5_weakened_0, kX5_codeAt_0, kX5_put_0, kX7_isSkin_0, kX7_wide_0, kX7_rows_0, kX7_legible_0, kX7_coinsAtFirst_0, kX7_cells_0, kX7_spots_0, kX7_hasCell_0, kX7_hasRow_0, kX7_hasHand_0, kX7_ofHand_0, kX7_firstOf_0, kX7_rowOf_0, kX7_placeOf_0, kX10_isLetter_0, kX10_signAt_0, kX8_writingAt_0, kX8_lawThatHolds_0, kX8_lets_0, kX9_rewind_0, kX9_step_0, kX9_stepBack_0, kX9_cut_0, kX3_clear_0, kX3_add_0, kX6_judge_0, kX6_swap_0, kX1_push_0, kX1_pop_0, kX0_forget_0, kX11_refuse_0, kX11_draw_0, kX12_in_0, kX12_has_0, kX12_here_0, kX12_bad_0, kX12_isDigit_0, kX12_isSign_0, kX12_isInk_0, kX12_of_0, kX12_setOf_0, kX12_isCell_0, kX12_isHand_0, kX12_isRow_0, kX12_isWriting_0, kX12_isLegible_0, kX12_signOf_0, kX12_areYears_0, kX12_isRefused_0, kX12_draw_0, sk_nth, sk_set, sk_lok, sk_isL, sk_one, sk_pop, sk_wt, sk_cat, sk_ent, sk_pad, sk_tl_n, sk_tl_s, List.length_cons, List.length_nil, true_and, and_true, Bool.not_false, sk_F_at, Option.getD_some, sk_w_id, sk_I_at, sk_isI, false_implies, true_implies, forall_const, ne_eq, not_true_eq_false, not_false_eq_true, implies_true, true_or, or_true, va_up_self, va_up_ne, va_up_up, sk_I_up, p2]
    and_intros <;> intros <;> and_intros <;> intros <;> and_intros <;> intros <;> and_intros <;> intros <;> and_intros <;> intros <;> and_intros <;> intros <;> and_intros <;> intros <;> and_intros <;> intros <;> and_intros <;> try first | omega | rfl | assumption
    refine l_eats h2 (by omega) (by omega) (by omega) (by omega) (by omega) (fun e M3 h3 => ?_) (fun e M3 h3 => ?_)
    · rw [if_pos e] at hQ
      have p3 := h3.2.1
      have hs := lp_prog T n hT LF 3 0 (tp_skip T n r.2.1 + 1) (by omega) (by omega) (by omega)
      simp (disch := omega) only [po_i, po_l, po_null, po_iload, po_lload, po_aload, po_istore, po_astore, po_iinc, po_iadd, po_isub, po_imul, po_ineg, po_iand, po_ior, po_ishl, po_ishr, po_iushr, po_idiv, po_irem, po_dup, po_dup2, po_pop, po_ifeq, po_ifne, po_iflt, po_ifge, po_ifgt, po_ifle, po_iceq, po_icne, po_iclt, po_icge, po_icgt, po_icle, po_ifnull, po_ifnull1, po_ret, po_iret, po_zret, po_lret, po_aret, po_getf, po_puti, po_putz, po_putl, po_puta, po_iaload, po_iastore, po_alen, po_baload, po_bastore, po_laload, po_lastore, po_aaload, po_aastore, po_invB, po_stcB, po_stcB0, po_iniB, po_new, po_newa, po_obj, po_ladd, po_lsub, po_lmul, po_ldiv, po_lrem, po_land, po_lor, po_lshl, po_lushr, po_i2l, po_l2i, po_i2c, po_lcmp, po_lstore, po_tsw, po_gets, po_max, po_min, po_maxl, po_minl, po_acopy, po_ixor, po_lds, po_slen, po_sidx, po_invT, po_stcT, po_stcT0, sk_swt, kX5_letterIn_0, kX5_handIn_0, kX5_strengthIn_0, kX5_weakened_0, kX5_codeAt_0, kX5_put_0, kX7_isSkin_0, kX7_wide_0, kX7_rows_0, kX7_legible_0, kX7_coinsAtFirst_0, kX7_cells_0, kX7_spots_0, kX7_hasCell_0, kX7_hasRow_0, kX7_hasHand_0, kX7_ofHand_0, kX7_firstOf_0, kX7_rowOf_0, kX7_placeOf_0, kX10_isLetter_0, kX10_signAt_0, kX8_writingAt_0, kX8_lawThatHolds_0, kX8_lets_0, kX9_rewind_0, kX9_step_0, kX9_stepBack_0, kX9_cut_0, kX3_clear_0, kX3_add_0, kX6_judge_0, kX6_swap_0, kX1_push_0, kX1_pop_0, kX0_forget_0, kX11_refuse_0, kX11_draw_0, kX12_in_0, kX12_has_0, kX12_here_0, kX12_bad_0, kX12_isDigit_0, kX12_isSign_0, kX12_isInk_0, kX12_of_0, kX12_setOf_0, kX12_isCell_0, kX12_isHand_0, kX12_isRow_0, kX12_isWriting_0, kX12_isLegible_0, kX12_signOf_0, kX12_areYears_0, kX12_isRefused_0, kX12_draw_0, sk_nth, sk_set, sk_lok, sk_isL, sk_one, sk_pop, sk_wt, sk_cat, sk_ent, sk_pad, sk_tl_n, sk_tl_s, List.length_cons, List.length_nil, true_and, and_true, Bool.not_false, sk_F_at, Option.getD_some, sk_w_id, sk_I_at, sk_isI, false_implies, true_implies, forall_const, ne_eq, not_true_eq_false, not_false_eq_true, implies_true, true_or, or_true, va_up_self, va_up_ne, va_up_up, sk_I_up, p3]
      and_intros <;> intros <;> and_intros <;> intros <;> and_intros <;> intros <;> and_intros <;> intros <;> and_intros <;> intros <;> and_intros <;> intros <;> and_intros <;> intros <;> and_intros <;> intros <;> and_intros <;> try first | omega | rfl | assumption
      refine c_add h3 (by omega) (by omega) (fun M4 h4 => ?_)
      have p4 := h4.2.1
      simp (disch := omega) only [po_i, po_l, po_null, po_iload, po_lload, po_aload, po_istore, po_astore, po_iinc, po_iadd, po_isub, po_imul, po_ineg, po_iand, po_ior, po_ishl, po_ishr, po_iushr, po_idiv, po_irem, po_dup, po_dup2, po_pop, po_ifeq, po_ifne, po_iflt, po_ifge, po_ifgt, po_ifle, po_iceq, po_icne, po_iclt, po_icge, po_icgt, po_icle, po_ifnull, po_ifnull1, po_ret, po_iret, po_zret, po_lret, po_aret, po_getf, po_puti, po_putz, po_putl, po_puta, po_iaload, po_iastore, po_alen, po_baload, po_bastore, po_laload, po_lastore, po_aaload, po_aastore, po_invB, po_stcB, po_stcB0, po_iniB, po_new, po_newa, po_obj, po_ladd, po_lsub, po_lmul, po_ldiv, po_lrem, po_land, po_lor, po_lshl, po_lushr, po_i2l, po_l2i, po_i2c, po_lcmp, po_lstore, po_tsw, po_gets, po_max, po_min, po_maxl, po_minl, po_acopy, po_ixor, po_lds, po_slen, po_sidx, po_invT, po_stcT, po_stcT0, sk_swt, kX5_letterIn_0, kX5_handIn_0, kX5_strengthIn_0, kX5_weakened_0, kX5_codeAt_0, kX5_put_0, kX7_isSkin_0, kX7_wide_0, kX7_rows_0, kX7_legible_0, kX7_coinsAtFirst_0, kX7_cells_0, kX7_spots_0, kX7_hasCell_0, kX7_hasRow_0, kX7_hasHand_0, kX7_ofHand_0, kX7_firstOf_0, kX7_rowOf_0, kX7_placeOf_0, kX10_isLetter_0, kX10_signAt_0, kX8_writingAt_0, kX8_lawThatHolds_0, kX8_lets_0, kX9_rewind_0, kX9_step_0, kX9_stepBack_0, kX9_cut_0, kX3_clear_0, kX3_add_0, kX6_judge_0, kX6_swap_0, kX1_push_0, kX1_pop_0, kX0_forget_0, kX11_refuse_0, kX11_draw_0, kX12_in_0, kX12_has_0, kX12_here_0, kX12_bad_0, kX12_isDigit_0, kX12_isSign_0, kX12_isInk_0, kX12_of_0, kX12_setOf_0, kX12_isCell_0, kX12_isHand_0, kX12_isRow_0, kX12_isWriting_0, kX12_isLegible_0, kX12_signOf_0, kX12_areYears_0, kX12_isRefused_0, kX12_draw_0, sk_nth, sk_set, sk_lok, sk_isL, sk_one, sk_pop, sk_wt, sk_cat, sk_ent, sk_pad, sk_tl_n, sk_tl_s, List.length_cons, List.length_nil, true_and, and_true, Bool.not_false, sk_F_at, Option.getD_some, sk_w_id, sk_I_at, sk_isI, false_implies, true_implies, forall_const, ne_eq, not_true_eq_false, not_false_eq_true, implies_true, true_or, or_true, va_up_self, va_up_ne, va_up_up, sk_I_up, p4]
      and_intros <;> intros <;> and_intros <;> intros <;> and_intros <;> intros <;> and_intros <;> intros <;> and_intros <;> intros <;> and_intros <;> intros <;> and_intros <;> intros <;> and_intros <;> intros <;> and_intros <;> try first | omega | rfl | assumption
      refine lz_sum h4 (by omega) (by omega) (by omega) (by omega) (by omega) ⟨fun es M5 h5 => ?_, fun es M5 len5 st5 h5 => ?_⟩
      · have hs2 := hs.2.2 es
        have hs3 := hs2.1 rfl
        have hs4 := hs.2.1
        have p5 := h5.2.1
        simp (disch := omega) only [po_i, po_l, po_null, po_iload, po_lload, po_aload, po_istore, po_astore, po_iinc, po_iadd, po_isub, po_imul, po_ineg, po_iand, po_ior, po_ishl, po_ishr, po_iushr, po_idiv, po_irem, po_dup, po_dup2, po_pop, po_ifeq, po_ifne, po_iflt, po_ifge, po_ifgt, po_ifle, po_iceq, po_icne, po_iclt, po_icge, po_icgt, po_icle, po_ifnull, po_ifnull1, po_ret, po_iret, po_zret, po_lret, po_aret, po_getf, po_puti, po_putz, po_putl, po_puta, po_iaload, po_iastore, po_alen, po_baload, po_bastore, po_laload, po_lastore, po_aaload, po_aastore, po_invB, po_stcB, po_stcB0, po_iniB, po_new, po_newa, po_obj, po_ladd, po_lsub, po_lmul, po_ldiv, po_lrem, po_land, po_lor, po_lshl, po_lushr, po_i2l, po_l2i, po_i2c, po_lcmp, po_lstore, po_tsw, po_gets, po_max, po_min, po_maxl, po_minl, po_acopy, po_ixor, po_lds, po_slen, po_sidx, po_invT, po_stcT, po_stcT0, sk_swt, kX5_letterIn_0, kX5_handIn_0, kX5_strengthIn_0, kX5_weakened_0, kX5_codeAt_0, kX5_put_0, kX7_isSkin_0, kX7_wide_0, kX7_rows_0, kX7_legible_0, kX7_coinsAtFirst_0, kX7_cells_0, kX7_spots_0, kX7_hasCell_0, kX7_hasRow_0, kX7_hasHand_0, kX7_ofHand_0, kX7_firstOf_0, kX7_rowOf_0, kX7_placeOf_0, kX10_isLetter_0, kX10_signAt_0, kX8_writingAt_0, kX8_lawThatHolds_0, kX8_lets_0, kX9_rewind_0, kX9_step_0, kX9_stepBack_0, kX9_cut_0, kX3_clear_0, kX3_add_0, kX6_judge_0, kX6_swap_0, kX1_push_0, kX1_pop_0, kX0_forget_0, kX11_refuse_0, kX11_draw_0, kX12_in_0, kX12_has_0, kX12_here_0, kX12_bad_0, kX12_isDigit_0, kX12_isSign_0, kX12_isInk_0, kX12_of_0, kX12_setOf_0, kX12_isCell_0, kX12_isHand_0, kX12_isRow_0, kX12_isWriting_0, kX12_isLegible_0, kX12_signOf_0, kX12_areYears_0, kX12_isRefused_0, kX12_draw_0, sk_nth, sk_set, sk_lok, sk_isL, sk_one, sk_pop, sk_wt, sk_cat, sk_ent, sk_pad, sk_tl_n, sk_tl_s, List.length_cons, List.length_nil, true_and, and_true, Bool.not_false, sk_F_at, Option.getD_some, sk_w_id, sk_I_at, sk_isI, false_implies, true_implies, forall_const, ne_eq, not_true_eq_false, not_false_eq_true, implies_true, true_or, or_true, va_up_self, va_up_ne, va_up_up, sk_I_up, p5]
        and_intros <;> intros <;> and_intros <;> intros <;> and_intros <;> intros <;> and_intros <;> intros <;> and_intros <;> intros <;> and_intros <;> intros <;> and_intros <;> intros <;> and_intros <;> intros <;> and_intros <;> try first | omega | rfl | assumption
        refine c_add h5 (by omega) (by omega) (fun M6 h6 => ?_)
        have p6 := h6.2.1
        have q6 := h6.2.2.1
        generalize lp T n LF 3 0 (tp_skip T n r.2.1 + 1) = s at *
        have wd : sk_or 12 (sk_shl (len0 + cs.length + r.2.2.length + 1 + s.2.2.length + 1) 4) = 12 + 16 * (len0 + cs.length + r.2.2.length + 1 + s.2.2.length + 1) := lp_word (by omega) (by omega) (by omega) (by omega)
        have e9 : sk_up (sk_up (lp_app (sk_up (lp_app (lp_app st0 len0 cs) (len0 + cs.length) r.2.2) (len0 + cs.length + r.2.2.length) (sk_or 12 (sk_shl 0 4))) (len0 + cs.length + r.2.2.length + 1) s.2.2) (len0 + cs.length + r.2.2.length + 1 + s.2.2.length) (sk_or 13 (sk_shl 0 4))) (len0 + cs.length + r.2.2.length) (12 + 16 * (len0 + cs.length + r.2.2.length + 1 + s.2.2.length + 1)) = lp_app st0 len0 (lq_e len0 (true, cs ++ r.2.2, s.2.2)) := by
          rw [lp_word (by omega) (by omega) (by omega) (by omega), lp_word (by omega) (by omega) (by omega) (by omega)]
          unfold lq_e
          rw [if_pos rfl, ← lp_app_set st0 len0 12]
          simp only [List.length_append]
          have e10 : len0 + ((cs.length + r.2.2.length : Nat) : Int) = len0 + cs.length + r.2.2.length := by omega
          rw [e10]
          congr 1
          rw [lp_app_app, lp_app_app]
          simp only [lp_app, List.length_append, e10]
          rw [lp_app_app]
          simp only [lp_app]
          rfl
        have hR := hQ.1 es _ (by
          have h7 := lps_patch (f := sk_up (sk_up (lp_app (sk_up (lp_app (lp_app st0 len0 cs) (len0 + cs.length) r.2.2) (len0 + cs.length + r.2.2.length) (sk_or 12 (sk_shl 0 4))) (len0 + cs.length + r.2.2.length + 1) s.2.2) (len0 + cs.length + r.2.2.length + 1 + s.2.2.length) (sk_or 13 (sk_shl 0 4))) (len0 + cs.length + r.2.2.length) (12 + 16 * (len0 + cs.length + r.2.2.length + 1 + s.2.2.length + 1))) h6
          have e11 : len0 + ((lq_e len0 (true, cs ++ r.2.2, s.2.2)).length : Int) = len0 + cs.length + r.2.2.length + 1 + s.2.2.length + 1 := by
            unfold lq_e
            rw [if_pos rfl]
            simp only [List.length_append, List.length_cons, List.length_nil]
            omega
          rw [e11, ← e9]
          exact h7)
        simp (disch := omega) only [po_i, po_l, po_null, po_iload, po_lload, po_aload, po_istore, po_astore, po_iinc, po_iadd, po_isub, po_imul, po_ineg, po_iand, po_ior, po_ishl, po_ishr, po_iushr, po_idiv, po_irem, po_dup, po_dup2, po_pop, po_ifeq, po_ifne, po_iflt, po_ifge, po_ifgt, po_ifle, po_iceq, po_icne, po_iclt, po_icge, po_icgt, po_icle, po_ifnull, po_ifnull1, po_ret, po_iret, po_zret, po_lret, po_aret, po_getf, po_puti, po_putz, po_putl, po_puta, po_iaload, po_iastore, po_alen, po_baload, po_bastore, po_laload, po_lastore, po_aaload, po_aastore, po_invB, po_stcB, po_stcB0, po_iniB, po_new, po_newa, po_obj, po_ladd, po_lsub, po_lmul, po_ldiv, po_lrem, po_land, po_lor, po_lshl, po_lushr, po_i2l, po_l2i, po_i2c, po_lcmp, po_lstore, po_tsw, po_gets, po_max, po_min, po_maxl, po_minl, po_acopy, po_ixor, po_lds, po_slen, po_sidx, po_invT, po_stcT, po_stcT0, sk_swt, kX5_letterIn_0, kX5_handIn_0, kX5_strengthIn_0, kX5_weakened_0, kX5_codeAt_0, kX5_put_0, kX7_isSkin_0, kX7_wide_0, kX7_rows_0, kX7_legible_0, kX7_coinsAtFirst_0, kX7_cells_0, kX7_spots_0, kX7_hasCell_0, kX7_hasRow_0, kX7_hasHand_0, kX7_ofHand_0, kX7_firstOf_0, kX7_rowOf_0, kX7_placeOf_0, kX10_isLetter_0, kX10_signAt_0, kX8_writingAt_0, kX8_lawThatHolds_0, kX8_lets_0, kX9_rewind_0, kX9_step_0, kX9_stepBack_0, kX9_cut_0, kX3_clear_0, kX3_add_0, kX6_judge_0, kX6_swap_0, kX1_push_0, kX1_pop_0, kX0_forget_0, kX11_refuse_0, kX11_draw_0, kX12_in_0, kX12_has_0, kX12_here_0, kX12_bad_0, kX12_isDigit_0, kX12_isSign_0, kX12_isInk_0, kX12_of_0, kX12_setOf_0, kX12_isCell_0, kX12_isHand_0, kX12_isRow_0, kX12_isWriting_0, kX12_isLegible_0, kX12_signOf_0, kX12_areYears_0, kX12_isRefused_0, kX12_draw_0, sk_nth, sk_set, sk_lok, sk_isL, sk_one, sk_pop, sk_wt, sk_cat, sk_ent, sk_pad, sk_tl_n, sk_tl_s, List.length_cons, List.length_nil, true_and, and_true, Bool.not_false, sk_F_at, Option.getD_some, sk_w_id, sk_I_at, sk_isI, false_implies, true_implies, forall_const, ne_eq, not_true_eq_false, not_false_eq_true, implies_true, true_or, or_true, va_up_self, va_up_ne, va_up_up, sk_I_up, p6, q6, wd]
        and_intros <;> intros <;> and_intros <;> intros <;> and_intros <;> intros <;> and_intros <;> intros <;> and_intros <;> intros <;> and_intros <;> intros <;> and_intros <;> intros <;> and_intros <;> intros <;> and_intros <;> try first | omega | rfl | assumption
      · have hR := hQ.2 es M5 _ _ h5
        simp (disch := omega) only [po_i, po_l, po_null, po_iload, po_lload, po_aload, po_istore, po_astore, po_iinc, po_iadd, po_isub, po_imul, po_ineg, po_iand, po_ior, po_ishl, po_ishr, po_iushr, po_idiv, po_irem, po_dup, po_dup2, po_pop, po_ifeq, po_ifne, po_iflt, po_ifge, po_ifgt, po_ifle, po_iceq, po_icne, po_iclt, po_icge, po_icgt, po_icle, po_ifnull, po_ifnull1, po_ret, po_iret, po_zret, po_lret, po_aret, po_getf, po_puti, po_putz, po_putl, po_puta, po_iaload, po_iastore, po_alen, po_baload, po_bastore, po_laload, po_lastore, po_aaload, po_aastore, po_invB, po_stcB, po_stcB0, po_iniB, po_new, po_newa, po_obj, po_ladd, po_lsub, po_lmul, po_ldiv, po_lrem, po_land, po_lor, po_lshl, po_lushr, po_i2l, po_l2i, po_i2c, po_lcmp, po_lstore, po_tsw, po_gets, po_max, po_min, po_maxl, po_minl, po_acopy, po_ixor, po_lds, po_slen, po_sidx, po_invT, po_stcT, po_stcT0, sk_swt, kX5_letterIn_0, kX5_handIn_0, kX5_strengthIn_0, kX5_weakened_0, kX5_codeAt_0, kX5_put_0, kX7_isSkin_0, kX7_wide_0, kX7_rows_0, kX7_legible_0, kX7_coinsAtFirst_0, kX7_cells_0, kX7_spots_0, kX7_hasCell_0, kX7_hasRow_0, kX7_hasHand_0, kX7_ofHand_0, kX7_firstOf_0, kX7_rowOf_0, kX7_placeOf_0, kX10_isLetter_0, kX10_signAt_0, kX8_writingAt_0, kX8_lawThatHolds_0, kX8_lets_0, kX9_rewind_0, kX9_step_0, kX9_stepBack_0, kX9_cut_0, kX3_clear_0, kX3_add_0, kX6_judge_0, kX6_swap_0, kX1_push_0, kX1_pop_0, kX0_forget_0, kX11_refuse_0, kX11_draw_0, kX12_in_0, kX12_has_0, kX12_here_0, kX12_bad_0, kX12_isDigit_0, kX12_isSign_0, kX12_isInk_0, kX12_of_0, kX12_setOf_0, kX12_isCell_0, kX12_isHand_0, kX12_isRow_0, kX12_isWriting_0, kX12_isLegible_0, kX12_signOf_0, kX12_areYears_0, kX12_isRefused_0, kX12_draw_0, sk_nth, sk_set, sk_lok, sk_isL, sk_one, sk_pop, sk_wt, sk_cat, sk_ent, sk_pad, sk_tl_n, sk_tl_s, List.length_cons, List.length_nil, true_and, and_true, Bool.not_false, sk_F_at, Option.getD_some, sk_w_id, sk_I_at, sk_isI, false_implies, true_implies, forall_const, ne_eq, not_true_eq_false, not_false_eq_true, implies_true, true_or, or_true, va_up_self, va_up_ne, va_up_up, sk_I_up]
        and_intros <;> intros <;> and_intros <;> intros <;> and_intros <;> intros <;> and_intros <;> intros <;> and_intros <;> intros <;> and_intros <;> intros <;> and_intros <;> intros <;> and_intros <;> intros <;> and_intros <;> try first | omega | rfl | assumption
    · rw [if_neg e] at hQ
      have hR := hQ.2 rfl M3 _ _ h3
      simp (disch := omega) only [po_i, po_l, po_null, po_iload, po_lload, po_aload, po_istore, po_astore, po_iinc, po_iadd, po_isub, po_imul, po_ineg, po_iand, po_ior, po_ishl, po_ishr, po_iushr, po_idiv, po_irem, po_dup, po_dup2, po_pop, po_ifeq, po_ifne, po_iflt, po_ifge, po_ifgt, po_ifle, po_iceq, po_icne, po_iclt, po_icge, po_icgt, po_icle, po_ifnull, po_ifnull1, po_ret, po_iret, po_zret, po_lret, po_aret, po_getf, po_puti, po_putz, po_putl, po_puta, po_iaload, po_iastore, po_alen, po_baload, po_bastore, po_laload, po_lastore, po_aaload, po_aastore, po_invB, po_stcB, po_stcB0, po_iniB, po_new, po_newa, po_obj, po_ladd, po_lsub, po_lmul, po_ldiv, po_lrem, po_land, po_lor, po_lshl, po_lushr, po_i2l, po_l2i, po_i2c, po_lcmp, po_lstore, po_tsw, po_gets, po_max, po_min, po_maxl, po_minl, po_acopy, po_ixor, po_lds, po_slen, po_sidx, po_invT, po_stcT, po_stcT0, sk_swt, kX5_letterIn_0, kX5_handIn_0, kX5_strengthIn_0, kX5_weakened_0, kX5_codeAt_0, kX5_put_0, kX7_isSkin_0, kX7_wide_0, kX7_rows_0, kX7_legible_0, kX7_coinsAtFirst_0, kX7_cells_0, kX7_spots_0, kX7_hasCell_0, kX7_hasRow_0, kX7_hasHand_0, kX7_ofHand_0, kX7_firstOf_0, kX7_rowOf_0, kX7_placeOf_0, kX10_isLetter_0, kX10_signAt_0, kX8_writingAt_0, kX8_lawThatHolds_0, kX8_lets_0, kX9_rewind_0, kX9_step_0, kX9_stepBack_0, kX9_cut_0, kX3_clear_0, kX3_add_0, kX6_judge_0, kX6_swap_0, kX1_push_0, kX1_pop_0, kX0_forget_0, kX11_refuse_0, kX11_draw_0, kX12_in_0, kX12_has_0, kX12_here_0, kX12_bad_0, kX12_isDigit_0, kX12_isSign_0, kX12_isInk_0, kX12_of_0, kX12_setOf_0, kX12_isCell_0, kX12_isHand_0, kX12_isRow_0, kX12_isWriting_0, kX12_isLegible_0, kX12_signOf_0, kX12_areYears_0, kX12_isRefused_0, kX12_draw_0, sk_nth, sk_set, sk_lok, sk_isL, sk_one, sk_pop, sk_wt, sk_cat, sk_ent, sk_pad, sk_tl_n, sk_tl_s, List.length_cons, List.length_nil, true_and, and_true, Bool.not_false, sk_F_at, Option.getD_some, sk_w_id, sk_I_at, sk_isI, false_implies, true_implies, forall_const, ne_eq, not_true_eq_false, not_false_eq_true, implies_true, true_or, or_true, va_up_self, va_up_ne, va_up_up, sk_I_up]
      and_intros <;> intros <;> and_intros <;> intros <;> and_intros <;> intros <;> and_intros <;> intros <;> and_intros <;> intros <;> and_intros <;> intros <;> and_intros <;> intros <;> and_intros <;> intros <;> and_intros <;> try first | omega | rfl | assumption
  · rw [lp_b_f er] at hQ
    unfold lq_fin at hQ
    rw [if_neg (by simp)] at hQ
    have hR := hQ.2 rfl M2 _ _ h2
    simp (disch := omega) only [po_i, po_l, po_null, po_iload, po_lload, po_aload, po_istore, po_astore, po_iinc, po_iadd, po_isub, po_imul, po_ineg, po_iand, po_ior, po_ishl, po_ishr, po_iushr, po_idiv, po_irem, po_dup, po_dup2, po_pop, po_ifeq, po_ifne, po_iflt, po_ifge, po_ifgt, po_ifle, po_iceq, po_icne, po_iclt, po_icge, po_icgt, po_icle, po_ifnull, po_ifnull1, po_ret, po_iret, po_zret, po_lret, po_aret, po_getf, po_puti, po_putz, po_putl, po_puta, po_iaload, po_iastore, po_alen, po_baload, po_bastore, po_laload, po_lastore, po_aaload, po_aastore, po_invB, po_stcB, po_stcB0, po_iniB, po_new, po_newa, po_obj, po_ladd, po_lsub, po_lmul, po_ldiv, po_lrem, po_land, po_lor, po_lshl, po_lushr, po_i2l, po_l2i, po_i2c, po_lcmp, po_lstore, po_tsw, po_gets, po_max, po_min, po_maxl, po_minl, po_acopy, po_ixor, po_lds, po_slen, po_sidx, po_invT, po_stcT, po_stcT0, sk_swt, kX5_letterIn_0, kX5_handIn_0, kX5_strengthIn_0, kX5_weakened_0, kX5_codeAt_0, kX5_put_0, kX7_isSkin_0, kX7_wide_0, kX7_rows_0, kX7_legible_0, kX7_coinsAtFirst_0, kX7_cells_0, kX7_spots_0, kX7_hasCell_0, kX7_hasRow_0, kX7_hasHand_0, kX7_ofHand_0, kX7_firstOf_0, kX7_rowOf_0, kX7_placeOf_0, kX10_isLetter_0, kX10_signAt_0, kX8_writingAt_0, kX8_lawThatHolds_0, kX8_lets_0, kX9_rewind_0, kX9_step_0, kX9_stepBack_0, kX9_cut_0, kX3_clear_0, kX3_add_0, kX6_judge_0, kX6_swap_0, kX1_push_0, kX1_pop_0, kX0_forget_0, kX11_refuse_0, kX11_draw_0, kX12_in_0, kX12_has_0, kX12_here_0, kX12_bad_0, kX12_isDigit_0, kX12_isSign_0, kX12_isInk_0, kX12_of_0, kX12_setOf_0, kX12_isCell_0, kX12_isHand_0, kX12_isRow_0, kX12_isWriting_0, kX12_isLegible_0, kX12_signOf_0, kX12_areYears_0, kX12_isRefused_0, kX12_draw_0, sk_nth, sk_set, sk_lok, sk_isL, sk_one, sk_pop, sk_wt, sk_cat, sk_ent, sk_pad, sk_tl_n, sk_tl_s, List.length_cons, List.length_nil, true_and, and_true, Bool.not_false, sk_F_at, Option.getD_some, sk_w_id, sk_I_at, sk_isI, false_implies, true_implies, forall_const, ne_eq, not_true_eq_false, not_false_eq_true, implies_true, true_or, or_true, va_up_self, va_up_ne, va_up_up, sk_I_up]
    and_intros <;> intros <;> and_intros <;> intros <;> and_intros <;> intros <;> and_intros <;> intros <;> and_intros <;> intros <;> and_intros <;> intros <;> and_intros <;> intros <;> and_intros <;> intros <;> and_intros <;> try first | omega | rfl | assumption
end LAWQ
