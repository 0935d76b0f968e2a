/-! ===== both sides: writings taken ===== -/
theorem wr_pl_at : ∀ (l : List Int) (q : Int) (k : Nat), k < l.length → (wr_pl q l)[k]? = some (q + k)
  | [], q, k, h => by simp at h
  | _ :: r, q, 0, h => by simp [wr_pl]
  | _ :: r, q, k + 1, h => by
    simp only [List.length_cons] at h
    simp only [wr_pl, List.getElem?_cons_succ]
    rw [wr_pl_at r (q + 1) k (by omega)]
    congr 1
    push_cast
    omega
theorem wr_ln_at (L : Int) (l : List Int) (k : Nat) (h : k < l.length) : (wr_ln L l)[k]? = some L := by
  unfold wr_ln
  rw [List.getElem?_map, List.getElem?_eq_getElem h]
  rfl
theorem wr_tri_at (L : Int) : ∀ (l : List Int) (q : Int) (k : Nat), k < l.length → (wr_tri L q l)[3 * k]? = l[k]? ∧ (wr_tri L q l)[3 * k + 1]? = some L ∧ (wr_tri L q l)[3 * k + 2]? = some (q + k)
  | [], q, k, h => by simp at h
  | _ :: r, q, 0, h => by simp [wr_tri]
  | _ :: r, q, k + 1, h => by
    simp only [List.length_cons] at h
    have ih := wr_tri_at L r (q + 1) k (by omega)
    rw [show 3 * (k + 1) = 3 * k + 1 + 1 + 1 by omega, show 3 * k + 1 + 1 + 1 + 1 = (3 * k + 1) + 1 + 1 + 1 by omega, show 3 * k + 1 + 1 + 1 + 2 = (3 * k + 2) + 1 + 1 + 1 by omega]
    simp only [wr_tri, List.getElem?_cons_succ]
    refine ⟨ih.1, ih.2.1, ih.2.2.trans ?_⟩
    congr 1
    push_cast
    omega
theorem wf_st_len : ∀ (ls : List (List Int)) (sz : Int), (wf_st sz ls).length = ls.length
  | [], _ => rfl
  | _ :: r, sz => by simp only [wf_st, List.length_cons]; rw [wf_st_len r]
theorem wf_le_len : ∀ (ls : List (List Int)), (wf_le ls).length = ls.length
  | [] => rfl
  | _ :: r => by simp only [wf_le, List.length_cons]; rw [wf_le_len r]
theorem wf_ln_len : ∀ (ls : List (List Int)) (L : Int), (wf_ln L ls).length = (wf ls).length
  | [], _ => rfl
  | l :: r, L => by simp only [wf_ln, wf, List.length_append]; rw [wf_ln_len r, wr_ln_len]
theorem wf_pl_len : ∀ (ls : List (List Int)), (wf_pl ls).length = (wf ls).length
  | [] => rfl
  | l :: r => by simp only [wf_pl, wf, List.length_append]; rw [wf_pl_len r, wr_pl_len]
theorem wf_tri_len : ∀ (ls : List (List Int)) (L : Int), (wf_tri L ls).length = 3 * (wf ls).length
  | [], _ => rfl
  | l :: r, L => by simp only [wf_tri, wf, List.length_append]; rw [wf_tri_len r, wr_tri_len]; omega
theorem wf_fwd : ∀ (ls : List (List Int)) (L sz : Int) (k : Nat), k < (wf ls).length → ∃ (l p : Nat) (s v g : Int), l < ls.length ∧ (wf ls)[k]? = some v ∧ (wf_ln L ls)[k]? = some (L + l) ∧ (wf_pl ls)[k]? = some (p : Int) ∧ (wf_st sz ls)[l]? = some s ∧ s + p = sz + k ∧ (wf_le ls)[l]? = some g ∧ p < g ∧ (wf_tri L ls)[3 * k]? = some v ∧ (wf_tri L ls)[3 * k + 1]? = some (L + l) ∧ (wf_tri L ls)[3 * k + 2]? = some (p : Int)
  | [], L, sz, k, h => by simp [wf] at h
  | x :: r, L, sz, k, h => by
    simp only [wf, List.length_append] at h
    by_cases hk : k < x.length
    · have t := wr_tri_at L x 0 k hk
      have tl := wr_tri_len x L 0
      refine ⟨0, k, sz, x[k], x.length, by simp, ?_, ?_, ?_, rfl, by simp, rfl, by omega, ?_, ?_, ?_⟩
      · simp only [wf]; rw [List.getElem?_append_left hk, List.getElem?_eq_getElem hk]
      · simp only [wf_ln]; rw [List.getElem?_append_left (by rw [wr_ln_len]; exact hk), wr_ln_at _ _ _ hk]; simp
      · simp only [wf_pl]; rw [List.getElem?_append_left (by rw [wr_pl_len]; exact hk), wr_pl_at _ _ _ hk]; simp
      · simp only [wf_tri]; rw [List.getElem?_append_left (by omega), t.1, List.getElem?_eq_getElem hk]
      · simp only [wf_tri]; rw [List.getElem?_append_left (by omega), t.2.1]; simp
      · simp only [wf_tri]; rw [List.getElem?_append_left (by omega), t.2.2]; simp
    · obtain ⟨l, p, s, v, g, c0, c1, c2, c3, c4, c5, c6, c7, c8, c9, c10⟩ := wf_fwd r (L + 1) (sz + x.length) (k - x.length) (by omega)
      have tl := wr_tri_len x L 0
      have ln := wr_ln_len L x
      have pl := wr_pl_len x 0
      refine ⟨l + 1, p, s, v, g, by simp only [List.length_cons]; omega, ?_, ?_, ?_, ?_, by omega, ?_, c7, ?_, ?_, ?_⟩
      · simp only [wf]; rw [List.getElem?_append_right (by omega)]; exact c1
      · simp only [wf_ln]; rw [List.getElem?_append_right (by omega), ln, c2]; congr 1; push_cast; omega
      · simp only [wf_pl]; rw [List.getElem?_append_right (by omega), pl]; exact c3
      · simp only [wf_st, List.getElem?_cons_succ]; exact c4
      · simp only [wf_le, List.getElem?_cons_succ]; exact c6
      · simp only [wf_tri]; rw [List.getElem?_append_right (by omega), show 3 * k - (wr_tri L 0 x).length = 3 * (k - x.length) by omega]; exact c8
      · simp only [wf_tri]; rw [List.getElem?_append_right (by omega), show 3 * k + 1 - (wr_tri L 0 x).length = 3 * (k - x.length) + 1 by omega, c9]; congr 1; push_cast; omega
      · simp only [wf_tri]; rw [List.getElem?_append_right (by omega), show 3 * k + 2 - (wr_tri L 0 x).length = 3 * (k - x.length) + 2 by omega]; exact c10
theorem wf_bwd : ∀ (ls : List (List Int)) (L sz : Int) (l p : Nat) (s g : Int), (wf_st sz ls)[l]? = some s → (wf_le ls)[l]? = some g → p < g → sz ≤ s ∧ s + g ≤ sz + (wf ls).length ∧ ∃ k : Nat, s + p = sz + k ∧ k < (wf ls).length ∧ (wf_ln L ls)[k]? = some (L + l) ∧ (wf_pl ls)[k]? = some (p : Int)
  | [], L, sz, l, p, s, g, h, _, _ => by simp [wf_st] at h
  | x :: r, L, sz, 0, p, s, g, h, h2, hp => by
    simp only [wf_st, wf_le, List.getElem?_cons_zero, Option.some.injEq] at h h2
    subst h h2
    refine ⟨by omega, by simp only [wf, List.length_append]; push_cast; omega, p, rfl, by simp only [wf, List.length_append]; omega, ?_, ?_⟩
    · simp only [wf_ln]; rw [List.getElem?_append_left (by rw [wr_ln_len]; omega), wr_ln_at _ _ _ (by omega)]; simp
    · simp only [wf_pl]; rw [List.getElem?_append_left (by rw [wr_pl_len]; omega), wr_pl_at _ _ _ (by omega)]; simp
  | x :: r, L, sz, l + 1, p, s, g, h, h2, hp => by
    simp only [wf_st, wf_le, List.getElem?_cons_succ] at h h2
    obtain ⟨a0, a1, k, a2, a3, a4, a5⟩ := wf_bwd r (L + 1) (sz + x.length) l p s g h h2 hp
    have ln := wr_ln_len L x
    have pl := wr_pl_len x 0
    refine ⟨by omega, by simp only [wf, List.length_append]; push_cast; omega, x.length + k, by push_cast; omega, by simp only [wf, List.length_append]; omega, ?_, ?_⟩
    · simp only [wf_ln]; rw [List.getElem?_append_right (by omega), ln, show x.length + k - x.length = k by omega, a4]; congr 1; push_cast; omega
    · simp only [wf_pl]; rw [List.getElem?_append_right (by omega), pl, show x.length + k - x.length = k by omega]; exact a5
theorem wr_max_at : ∀ (l : List Int) (lo p : Int), l ≠ [] → wr_max lo p l = sk_max lo (p + l.length)
  | [], _, _, h => (h rfl).elim
  | [_], lo, p, _ => by simp [wr_max]
  | _ :: y :: r, lo, p, _ => by
    have ih := wr_max_at (y :: r) (sk_max lo (p + 1)) (p + 1) (by simp)
    simp only [wr_max] at ih ⊢
    rw [ih]
    simp only [List.length_cons]
    push_cast
    unfold sk_max
    repeat' split
    all_goals omega
theorem wf_lo_at : ∀ (ls : List (List Int)) (lo : Int), (∀ l ∈ ls, l ≠ []) → lo ≤ wf_lo lo ls ∧ (∀ g ∈ wf_le ls, g ≤ wf_lo lo ls) ∧ (wf_lo lo ls = lo ∨ ∃ l : Nat, (wf_le ls)[l]? = some (wf_lo lo ls))
  | [], lo, _ => ⟨by simp [wf_lo], by simp [wf_le], Or.inl rfl⟩
  | x :: r, lo, h => by
    have hx := wr_max_at x lo 0 (h x (by simp))
    obtain ⟨a, b, c⟩ := wf_lo_at r (wr_max lo 0 x) (fun l hl => h l (by simp [hl]))
    have hm := sk_max_in lo (0 + (x.length : Int))
    simp only [wf_lo]
    refine ⟨by rw [hx] at a ⊢; omega, fun g hg => ?_, ?_⟩
    · simp only [wf_le, List.mem_cons] at hg
      rcases hg with rfl | hg
      · rw [hx] at a ⊢; omega
      · exact b g hg
    · rcases c with c | ⟨l, c⟩
      · by_cases e : lo < (x.length : Int)
        · refine Or.inr ⟨0, ?_⟩
          simp only [wf_le, List.getElem?_cons_zero]
          rw [c, hx]
          unfold sk_max
          rw [if_pos (by omega)]
          congr 1
          omega
        · refine Or.inl ?_
          rw [c, hx]
          unfold sk_max
          rw [if_neg (by omega)]
      · exact Or.inr ⟨l + 1, by simp only [wf_le, List.getElem?_cons_succ]; exact c⟩
theorem rl_sg {T : Int → Int} {n : Int} : ∀ (k : Nat) (i pl sz : Int), ∀ x ∈ (rl T n k i pl sz).2.2, 0 ≤ x ∧ x ≤ 26
  | 0, i, pl, sz, x, h => by simp [rl] at h
  | k + 1, i, pl, sz, x, h => by
    simp only [rl] at h
    split at h
    · next e =>
      split at h
      · simp at h
      · simp only [List.mem_cons] at h
        rcases h with rfl | h
        · unfold wr_sg
          split
          · omega
          · omega
        · exact rl_sg k _ _ _ x h
    · simp at h
theorem rw_ok {T : Int → Int} {n : Int} (hT : tp_ok T n) : ∀ (k : Nat) (i sz : Int), 0 ≤ i → i ≤ n → 0 ≤ sz → sz ≤ 16 → (rw' T n k i sz).1 = true → (rw' T n k i sz).2.2.length ≤ k ∧ 1 ≤ (rw' T n k i sz).2.2.length ∧ sz + (wf (rw' T n k i sz).2.2).length ≤ 16 ∧ ∀ l ∈ (rw' T n k i sz).2.2, l ≠ [] ∧ l.length ≤ 8 ∧ ∀ x ∈ l, 0 ≤ x ∧ x ≤ 26
  | 0, i, sz, i0, i1, s0, s1, h => by simp [rw'] at h
  | k + 1, i, sz, i0, i1, s0, s1, h => by
    obtain ⟨r1, r2, r3, r4, r5, r6⟩ := rl_in hT 9 i 0 sz i0 i1 (by omega)
    have a3 := tp_ch_in (i := (rl T n 9 i 0 sz).2.1) hT (by omega)
    have hs := rl_sg (T := T) (n := n) 9 i 0 sz
    have r4 := r4 s1
    have r5 := r5 (by omega)
    simp only [rw'] at h ⊢
    split at h
    · next e =>
      rw [if_pos e]
      have r6 := r6 e
      have ne : (rl T n 9 i 0 sz).2.2 ≠ [] := fun q => by rw [q] at r6; simp at r6
      split at h
      · next e2 =>
        rw [if_pos e2]
        refine ⟨by simp, by simp, by simp only [wf, List.length_append, List.length_nil]; push_cast; omega, fun l hl => ?_⟩
        simp only [List.mem_cons, List.not_mem_nil, or_false] at hl
        subst hl
        exact ⟨ne, by omega, hs⟩
      · next e2 =>
        rw [if_neg e2]
        split at h
        · simp at h
        · next e3 =>
          rw [if_neg e3]
          simp only [] at h
          obtain ⟨q1, q2, q3, q4⟩ := rw_ok hT k ((rl T n 9 i 0 sz).2.1 + 1) (sz + (rl T n 9 i 0 sz).2.2.length) (by omega) (by omega) (by omega) (by omega) h
          refine ⟨by simp only [List.length_cons]; omega, by simp only [List.length_cons]; omega, by simp only [wf, List.length_append]; push_cast; omega, fun l hl => ?_⟩
          simp only [List.mem_cons] at hl
          rcases hl with rfl | hl
          · exact ⟨ne, by omega, hs⟩
          · exact q4 l hl
    · simp at h
theorem lp_app_at (st : Int → Int) : ∀ (xs : List Int) (p : Int) (k : Nat) (v : Int), xs[k]? = some v → lp_app st p xs (p + k) = v
  | [], p, k, v, h => by simp at h
  | c :: r, p, 0, v, h => by
    simp only [List.getElem?_cons_zero, Option.some.injEq] at h
    simp only [lp_app]
    rw [lp_app_lt _ _ _ _ (by omega), show p + ((0 : Nat) : Int) = p by omega, sk_up_self, h]
  | c :: r, p, k + 1, v, h => by
    simp only [List.getElem?_cons_succ] at h
    simp only [lp_app]
    have := lp_app_at (sk_up st p c) r (p + 1) k v h
    rw [← this]
    congr 1
    push_cast
    omega
theorem lp_app_hi (st : Int → Int) : ∀ (xs : List Int) (p j : Int), p + xs.length ≤ j → lp_app st p xs j = st j
  | [], p, j, h => rfl
  | c :: r, p, j, h => by
    simp only [List.length_cons] at h
    push_cast at h
    simp only [lp_app]
    rw [lp_app_hi _ r (p + 1) j (by omega), sk_up_ne _ _ (by omega)]
theorem wf_mem : ∀ (ls : List (List Int)) (v : Int), v ∈ wf ls → ∃ l ∈ ls, v ∈ l
  | [], v, h => by simp [wf] at h
  | x :: r, v, h => by
    simp only [wf, List.mem_append] at h
    rcases h with h | h
    · exact ⟨x, by simp, h⟩
    · obtain ⟨l, hl, hv⟩ := wf_mem r v h
      exact ⟨l, by simp [hl], hv⟩
theorem wf_le_mem : ∀ (ls : List (List Int)) (g : Int), g ∈ wf_le ls → ∃ l ∈ ls, g = l.length
  | [], g, h => by simp [wf_le] at h
  | x :: r, g, h => by
    simp only [wf_le, List.mem_cons] at h
    rcases h with rfl | h
    · exact ⟨x, by simp, rfl⟩
    · obtain ⟨l, hl, hv⟩ := wf_le_mem r g h
      exact ⟨l, by simp [hl], hv⟩
/-- a writing as both take it -/
theorem wg_new {sg ln pl ss lg : Int → Int} {ls : List (List Int)} (h1 : ls.length ≤ 4) (h2 : 1 ≤ ls.length) (h3 : (wf ls).length ≤ 16) (h4 : ∀ l ∈ ls, l ≠ [] ∧ l.length ≤ 8 ∧ ∀ x ∈ l, 0 ≤ x ∧ x ≤ 26) : wg (lp_app sg 0 (wf ls)) (lp_app ln 0 (wf_ln 0 ls)) (lp_app pl 0 (wf_pl ls)) (lp_app ss 0 (wf_st 0 ls)) (lp_app lg 0 (wf_le ls)) (wf ls).length ls.length (wf_lo 0 ls) := by
  have hlo := wf_lo_at ls 0 (fun l hl => (h4 l hl).1)
  have hA : ∀ (st : Int → Int) (xs : List Int) (k : Nat) (v : Int), xs[k]? = some v → lp_app st 0 xs k = v := fun st xs k v h => by
    have := lp_app_at st xs 0 k v h
    rwa [Int.zero_add] at this
  have nat : ∀ k : Int, 0 ≤ k → ∃ m : Nat, k = m := fun k h => ⟨k.toNat, by omega⟩
  have hst : ∀ l : Nat, l < ls.length → ∃ s g : Int, (wf_st 0 ls)[l]? = some s ∧ (wf_le ls)[l]? = some g ∧ 1 ≤ g ∧ g ≤ 8 := fun l hl => by
    have e1 : l < (wf_st 0 ls).length := by rw [wf_st_len]; exact hl
    have e2 : l < (wf_le ls).length := by rw [wf_le_len]; exact hl
    refine ⟨_, _, List.getElem?_eq_getElem e1, List.getElem?_eq_getElem e2, ?_⟩
    obtain ⟨x, hx, hg⟩ := wf_le_mem ls _ (List.getElem_mem e2)
    have q := h4 x hx
    have : 0 < x.length := List.length_pos_iff.mpr q.1
    omega
  have hln : ∀ (l : Nat) (g : Int), (wf_le ls)[l]? = some g → l < ls.length := fun l g h => by
    have := (List.getElem?_eq_some_iff.mp h).1
    rwa [wf_le_len] at this
  obtain ⟨s0, g0, hs0, hg0, g1, g8⟩ := hst 0 (by omega)
  have ws0 : s0 = 0 := by
    cases ls with
    | nil => simp at h2
    | cons x r => simp only [wf_st, List.getElem?_cons_zero, Option.some.injEq] at hs0; exact hs0.symm
  have lo1 : 1 ≤ wf_lo 0 ls ∧ wf_lo 0 ls ≤ 8 ∧ ∃ l : Nat, (wf_le ls)[l]? = some (wf_lo 0 ls) := by
    have b := hlo.2.1 g0 (List.mem_of_getElem? hg0)
    rcases hlo.2.2 with c | ⟨l, c⟩
    · omega
    · obtain ⟨x, hx, hg⟩ := wf_le_mem ls _ (List.mem_of_getElem? c)
      have q := h4 x hx
      exact ⟨by omega, by omega, l, c⟩
  obtain ⟨lo1, lo8, l9, hl9⟩ := lo1
  have z1 : 1 ≤ (wf ls).length := by
    have := wf_bwd ls 0 0 0 0 s0 g0 hs0 hg0 (by omega)
    omega
  refine ⟨fun k k0 k1 => ?_, ⟨?_, fun l l0 l1 => ?_, fun k k0 k1 => ?_, fun l p l0 l1 p0 p1 => ?_⟩, ?_, by omega, by omega, by omega⟩
  · obtain ⟨m, rfl⟩ := nat k k0
    obtain ⟨l, p, s, v, g, c0, c1, c2, c3, c4, c5, c6, c7, -⟩ := wf_fwd ls 0 0 m (by omega)
    obtain ⟨x, hx, hv⟩ := wf_mem ls v (List.mem_of_getElem? c1)
    have q := (h4 x hx).2.2 v hv
    have b := hlo.2.1 g (List.mem_of_getElem? c6)
    rw [hA _ _ _ _ c1, hA _ _ _ _ c2, hA _ _ _ _ c3]
    omega
  · have := hA ss _ _ _ hs0
    rw [show ((0 : Nat) : Int) = 0 from rfl] at this
    omega
  · obtain ⟨m, rfl⟩ := nat l l0
    obtain ⟨s, g, a, b, b1, b8⟩ := hst m (by omega)
    have q := wf_bwd ls 0 0 m 0 s g a b (by omega)
    rw [hA _ _ _ _ a, hA _ _ _ _ b]
    omega
  · obtain ⟨m, rfl⟩ := nat k k0
    obtain ⟨l, p, s, v, g, c0, c1, c2, c3, c4, c5, c6, c7, -⟩ := wf_fwd ls 0 0 m (by omega)
    rw [hA _ _ _ _ c2, hA _ _ _ _ c3, Int.zero_add, hA _ _ _ _ c4, hA _ _ _ _ c6]
    omega
  · obtain ⟨m, rfl⟩ := nat l l0
    obtain ⟨p', rfl⟩ := nat p p0
    obtain ⟨s, g, a, b, b1, b8⟩ := hst m (by omega)
    rw [hA _ _ _ _ b] at p1
    obtain ⟨-, -, k, a2, a3, a4, a5⟩ := wf_bwd ls 0 0 m p' s g a b p1
    rw [hA _ _ _ _ a, show s + (p' : Int) = (k : Int) by omega, hA _ _ _ _ a4, hA _ _ _ _ a5]
    omega
  · have := hln l9 _ hl9
    exact ⟨l9, by omega, by omega, hA _ _ _ _ hl9⟩
theorem wrel_keep {Y Y' : Nat → Int → Int} {w' w : Int} {sg ln pl lg : Int → Int} {size lines : Int} (h15 : ∀ j, j < 48 * w → Y' 15 j = Y 15 j) (h16 : ∀ j, j ≠ w → Y' 16 j = Y 16 j) (h17 : ∀ j, j < 4 * w → Y' 17 j = Y 17 j) (hw : w' < w) (hs : size ≤ 16) (h : wrel Y w' sg ln pl lg size lines) : wrel Y' w' sg ln pl lg size lines := by
  refine ⟨(h16 _ (by omega)).trans h.1, fun k k0 k1 => ?_, fun l l0 l1 => (h17 _ (by omega)).trans (h.2.2 l l0 l1)⟩
  have q := h.2.1 k k0 k1
  exact ⟨(h15 _ (by omega)).trans q.1, (h15 _ (by omega)).trans q.2.1, (h15 _ (by omega)).trans q.2.2⟩
theorem tkw_rel {S S' : Nat → Int} {Y Y' : Nat → Int → Int} {ls : List (List Int)} {i : Int} (sg ln pl lg : Int → Int) (h : tkw S Y ls i S' Y') (h1 : ls.length ≤ 4) : wrel Y' (S 27) (lp_app sg 0 (wf ls)) (lp_app ln 0 (wf_ln 0 ls)) (lp_app pl 0 (wf_pl ls)) (lp_app lg 0 (wf_le ls)) (wf ls).length ls.length := by
  obtain ⟨-, rfl⟩ := h
  have hA : ∀ (st : Int → Int) (xs : List Int) (k : Nat) (v : Int), xs[k]? = some v → lp_app st 0 xs k = v := fun st xs k v h => by
    have := lp_app_at st xs 0 k v h
    rwa [Int.zero_add] at this
  have nat : ∀ k : Int, 0 ≤ k → ∃ m : Nat, k = m := fun k h => ⟨k.toNat, by omega⟩
  refine ⟨sk_up_self _ _ _, fun k k0 k1 => ?_, fun l l0 l1 => ?_⟩
  · obtain ⟨m, rfl⟩ := nat k k0
    obtain ⟨l, p, s, v, g, c0, c1, c2, c3, c4, c5, c6, c7, c8, c9, c10⟩ := wf_fwd ls 0 0 m (by omega)
    rw [hA _ _ _ _ c1, hA _ _ _ _ c2, hA _ _ _ _ c3]
    refine ⟨?_, ?_, ?_⟩
    · have := lp_app_at (Y 15) (wf_tri 0 ls) (48 * S 27) (3 * m) v c8
      rw [← this]
      show lp_app (Y 15) (48 * S 27) (wf_tri 0 ls) _ = _
      congr 1
      push_cast
      omega
    · have := lp_app_at (Y 15) (wf_tri 0 ls) (48 * S 27) (3 * m + 1) _ c9
      rw [← this]
      show lp_app (Y 15) (48 * S 27) (wf_tri 0 ls) _ = _
      congr 1
      push_cast
      omega
    · have := lp_app_at (Y 15) (wf_tri 0 ls) (48 * S 27) (3 * m + 2) _ c10
      rw [← this]
      show lp_app (Y 15) (48 * S 27) (wf_tri 0 ls) _ = _
      congr 1
      push_cast
      omega
  · obtain ⟨m, rfl⟩ := nat l l0
    show lp_app (lp_app (Y 17) (4 * S 27) [0, 0, 0, 0]) (4 * S 27) (wf_le ls) (4 * S 27 + (m : Int)) = _
    have len := wf_le_len ls
    by_cases e : (m : Int) < (ls.length : Int)
    · rw [if_pos e]
      have e1 : m < (wf_le ls).length := by omega
      rw [lp_app_at _ _ _ _ _ (List.getElem?_eq_getElem e1), hA _ _ _ _ (List.getElem?_eq_getElem e1)]
    · rw [if_neg e, lp_app_hi _ _ _ _ (by omega)]
      have : m = 0 ∨ m = 1 ∨ m = 2 ∨ m = 3 := by omega
      rcases this with rfl | rfl | rfl | rfl <;> exact lp_app_at _ _ _ _ _ rfl
theorem tkw_S {S S' : Nat → Int} {Y Y' : Nat → Int → Int} {ls : List (List Int)} {i : Int} (h : tkw S Y ls i S' Y') : S' 27 = S 27 + 1 ∧ S' 2 = 0 ∧ ∀ j, j ≠ 2 → j ≠ 3 → j ≠ 4 → j ≠ 5 → j ≠ 27 → S' j = S j := by
  obtain ⟨rfl, -⟩ := h
  refine ⟨va_up_self _ _ _, ?_, fun j a b c d e => ?_⟩
  · rw [va_up_ne _ _ (by decide)]; exact va_up_self _ _ _
  · rw [va_up_ne _ _ e, va_up_ne _ _ a]
    unfold mS
    rw [if_neg b, if_neg c, if_neg d]
theorem tkw_keep {S S' : Nat → Int} {Y Y' : Nat → Int → Int} {ls : List (List Int)} {i : Int} (h : tkw S Y ls i S' Y') : (∀ k, k ≠ 15 → k ≠ 16 → k ≠ 17 → Y' k = Y k) ∧ (∀ j, j < 48 * S 27 → Y' 15 j = Y 15 j) ∧ (∀ j, j ≠ S 27 → Y' 16 j = Y 16 j) ∧ ∀ j, j < 4 * S 27 → Y' 17 j = Y 17 j := by
  obtain ⟨-, rfl⟩ := h
  refine ⟨fun k a b c => ?_, fun j hj => lp_app_lt _ _ _ _ hj, fun j hj => sk_up_ne _ _ hj, fun j hj => (lp_app_lt _ _ _ _ hj).trans (lp_app_lt _ _ _ _ hj)⟩
  unfold mW
  simp only [a, b, c, if_false]
