/-! ===== laws: what a code is worth ===== -/
def lv_cl (x : Int) : Int := if x < -1000000 then -1000000 else if 1000000 < x then 1000000 else x
def lv_j (op l r : Int) : Int := if op = 2 then lv_cl (l + r) else if op = 3 then lv_cl (l - r) else if op = 4 then lv_cl (l * r) else if op = 5 then (if r = 0 then 0 else lv_cl (Int.tdiv l r)) else if op = 6 then (if l = r then 1 else 0) else if op = 7 then (if l < r then 1 else 0) else if op = 8 then (if r < l then 1 else 0) else if op = 10 then (if l ≠ 0 ∧ r ≠ 0 then 1 else 0) else (if l ≠ 0 ∨ r ≠ 0 then 1 else 0)
def lv_step (le : Int → Int) (w : Int) (stk : List Int) : Option (List Int) :=
  if w % 16 = 0 then (if stk.length < 32 ∧ 0 ≤ w ∧ w < 160000 then some (w / 16 :: stk) else none)
  else if w % 16 = 1 then (if stk.length < 32 ∧ 0 ≤ w ∧ w < 96 then some (le (w / 16) :: stk) else none)
  else if w % 16 = 9 then (match stk with | x :: r => if (x = 0 ∨ x = 1) ∧ w = 9 then some ((1 - x) :: r) else none | _ => none)
  else if 2 ≤ w ∧ w ≤ 11 then (match stk with | x :: y :: r => if w < 9 ∨ ((x = 0 ∨ x = 1) ∧ (y = 0 ∨ y = 1)) then some (lv_j w y x :: r) else none | _ => none)
  else none
def lv_run (le : Int → Int) : List Int → List Int → Option (List Int)
  | [], stk => some stk
  | w :: r, stk => match lv_step le w stk with
    | some s => lv_run le r s
    | none => none
theorem lv_run_app (le : Int → Int) : ∀ (x y stk : List Int), lv_run le (x ++ y) stk = match lv_run le x stk with | some s => lv_run le y s | none => none
  | [], y, stk => rfl
  | w :: r, y, stk => by
    simp only [List.cons_append, lv_run]
    cases lv_step le w stk with
    | none => rfl
    | some s => exact lv_run_app le r y s
theorem lv_seq {le : Int → Int} {x y stk s t : List Int} (h : lv_run le x stk = some s) (h2 : lv_run le y s = some t) : lv_run le (x ++ y) stk = some t := by rw [lv_run_app, h]; exact h2
theorem lv_cons {le : Int → Int} {w : Int} {y stk s t : List Int} (h : lv_step le w stk = some s) (h2 : lv_run le y s = some t) : lv_run le (w :: y) stk = some t := by simp only [lv_run]; rw [h]; exact h2
def lv_b (x : Int) : Prop := x = 0 ∨ x = 1
theorem lv_op {le : Int → Int} {w x y : Int} {r : List Int} (h0 : 2 ≤ w) (h1 : w ≤ 8) : lv_step le w (x :: y :: r) = some (lv_j w y x :: r) := by
  unfold lv_step
  rw [if_neg (by omega), if_neg (by omega), if_neg (by omega), if_pos (by omega)]
  exact if_pos (by omega)
theorem lv_opb {le : Int → Int} {w x y : Int} {r : List Int} (h0 : w = 10 ∨ w = 11) (hx : lv_b x) (hy : lv_b y) : lv_step le w (x :: y :: r) = some (lv_j w y x :: r) := by
  unfold lv_step
  rw [if_neg (by omega), if_neg (by omega), if_neg (by omega), if_pos (by omega)]
  exact if_pos (Or.inr ⟨hx, hy⟩)
theorem lv_jb {w x y : Int} (h0 : 6 ≤ w) : lv_b (lv_j w y x) := by
  unfold lv_j lv_b
  rw [if_neg (by omega), if_neg (by omega), if_neg (by omega), if_neg (by omega)]
  repeat' split
  all_goals omega
/-- a code that puts one value on the stack (tag 0, 1, 3), a truth (6, 9); that works on the uppermost (2, 4), makes a truth of it (5), works on a truth (7, 8) -/
def lv_A (le : Int → Int) (u : Nat) (cs : List Int) : Prop := ∃ f, ∀ stk : List Int, stk.length + u ≤ 32 → lv_run le cs stk = some (f :: stk)
def lv_B (le : Int → Int) (u : Nat) (cs : List Int) : Prop := ∃ f, lv_b f ∧ ∀ stk : List Int, stk.length + u ≤ 32 → lv_run le cs stk = some (f :: stk)
def lv_C (le : Int → Int) (u : Nat) (cs : List Int) : Prop := ∀ v, ∃ f, lv_b f ∧ ∀ stk : List Int, stk.length + u ≤ 32 → lv_run le cs (v :: stk) = some (f :: stk)
def lv_L (le : Int → Int) (u : Nat) (cs : List Int) : Prop := ∀ v, ∃ f, ∀ stk : List Int, stk.length + u ≤ 32 → lv_run le cs (v :: stk) = some (f :: stk)
def lv_M (le : Int → Int) (u : Nat) (cs : List Int) : Prop := ∀ v, lv_b v → ∃ f, lv_b f ∧ ∀ stk : List Int, stk.length + u ≤ 32 → lv_run le cs (v :: stk) = some (f :: stk)
def lv_ok (le : Int → Int) (u : Nat) (cs : List Int) : Nat → Prop
  | 0 => lv_A le u cs
  | 1 => lv_A le u cs
  | 2 => lv_L le u cs
  | 3 => lv_A le u cs
  | 4 => lv_L le u cs
  | 5 => lv_C le u cs
  | 6 => lv_B le u cs
  | 7 => lv_M le u cs
  | 8 => lv_M le u cs
  | _ => lv_B le u cs
/-- how much of the stack it takes -/
def lv_u (t : Nat) (w : Int) : Nat := 2 * (6 - w).toNat + (if t = 0 then 1 else if t = 1 then 2 else if t = 2 then 2 else if t = 3 then 3 else if t = 4 then 3 else if t = 5 then 4 else if t = 6 then 4 else if t = 7 then 5 else if t = 8 then 6 else 6)
theorem lp_b_inv {r : lp_R} {f : Int → List Int → lp_R} (h : (lp_b r f).1 = true) : r.1 = true ∧ lp_b r f = f r.2.1 r.2.2 := by
  cases e : r.1
  · rw [lp_b_f e] at h; simp at h
  · exact ⟨rfl, lp_b_t e⟩
theorem lp_e_inv {T : Int → Int} {n x i : Int} {cs : List Int} (h : (lp_e T n x i cs).1 = true) : (lp_e T n x i cs).2.2 = cs := by
  unfold lp_e at h ⊢
  split at h
  · next e => rw [if_pos e]
  · simp at h
theorem lv_good (T : Int → Int) (n : Int) (hT : tp_ok T n) : ∀ (F t : Nat) (w i : Int), t < 10 → 0 ≤ w → w ≤ 6 → 0 ≤ i → i ≤ n → (lp T n F t w i).1 = true → ∀ le, lv_ok le (lv_u t w) (lp T n F t w i).2.2 t
  | 0, t, w, i, _, _, _, _, _, h, le => by simp [lp] at h
  | F + 1, t, w, i, ht, w0, w6, i0, i1, h, le => by
    have ih := fun t w i a b c d e f => lv_good T n hT F t w i a b c d e f le
    have a1 := tp_skip_ge T n i
    have a2 := tp_skip_le T i1
    have a3 := tp_ch_in (i := tp_skip T n i) hT (by omega)
    have a4 := tp_number_in i1 i0 hT (most := 4) (by omega)
    have pr := fun t w i a b c => lp_prog T n hT F t w i a b c
    have hst : t = 0 ∨ t = 1 ∨ t = 2 ∨ t = 3 ∨ t = 4 ∨ t = 5 ∨ t = 6 ∨ t = 7 ∨ t = 8 ∨ t = 9 := by omega
    rcases hst with rfl | rfl | rfl | rfl | rfl | rfl | rfl | rfl | rfl | rfl
    · simp only [lp] at h ⊢
      split at h
      · next e1 =>
        rw [if_pos e1]
        split at h
        · simp at h
        · next e2 =>
          rw [if_neg e2]
          refine ⟨(tp_number T n 4 i).1, fun stk hs => ?_⟩
          simp only [lv_u] at hs
          refine lv_cons ?_ rfl
          unfold lv_step
          rw [if_pos (by omega), if_pos ⟨by simp at hs; omega, by omega, by omega⟩]
          congr 2
          omega
      · next e1 =>
        rw [if_neg e1]
        have b1 := lp_let_in (tp_ch T n (tp_skip T n i))
        split at h
        · next e2 =>
          rw [if_pos e2]
          refine ⟨le (lp_let (tp_ch T n (tp_skip T n i))), fun stk hs => ?_⟩
          simp only [lv_u] at hs
          refine lv_cons ?_ rfl
          unfold lv_step
          rw [if_neg (by omega), if_pos (by omega), if_pos ⟨by simp at hs; omega, by omega, by omega⟩]
          congr 3
          omega
        · next e2 =>
          rw [if_neg e2]
          split at h
          · simp at h
          · next e3 =>
            rw [if_neg e3]
            obtain ⟨h1, h2⟩ := lp_b_inv h
            rw [h2] at h ⊢
            have hr := pr 3 (w + 1) (tp_skip T n i + 1) (by omega) (by omega) (by omega)
            have g := ih 3 (w + 1) (tp_skip T n i + 1) (by omega) (by omega) (by omega) (by omega) (by omega) h1
            obtain ⟨f, g⟩ := g
            rw [lp_e_inv h]
            refine ⟨f, fun stk hs => g stk ?_⟩
            simp only [lv_u] at hs ⊢
            simp at hs ⊢
            omega
    · simp only [lp] at h ⊢
      obtain ⟨h1, h2⟩ := lp_b_inv h
      rw [h2] at h ⊢
      have hr := pr 0 w (i) (by omega) (by omega) (by omega)
      have hr3 := (hr.2.2 h1).1 rfl
      have hr4 := hr.2.1
      obtain ⟨h3, h4⟩ := lp_b_inv h
      rw [h4]
      have g1 := ih 0 w (i) (by omega) w0 w6 (by omega) (by omega) h1
      have g2 := ih 2 w _ (by omega) w0 w6 (by omega) hr4 h3
      obtain ⟨f, g1⟩ := g1
      obtain ⟨f2, g2⟩ := g2 f
      exact ⟨f2, fun stk hs => lv_seq (g1 stk (by simp only [lv_u, List.length_cons] at hs ⊢; simp at hs ⊢; omega)) (g2 stk (by simp only [lv_u, List.length_cons] at hs ⊢; simp at hs ⊢; omega))⟩
    · simp only [lp] at h ⊢
      intro v
      split at h
      · next e1 =>
        rw [if_pos e1]
        obtain ⟨h1, h2⟩ := lp_b_inv h
        rw [h2] at h ⊢
        have hr := pr 0 w (tp_skip T n i + 1) (by omega) (by omega) (by omega)
        have hr3 := (hr.2.2 h1).1 rfl
        have hr4 := hr.2.1
        obtain ⟨h3, h4⟩ := lp_b_inv h
        rw [h4]
        have g1 := ih 0 w (tp_skip T n i + 1) (by omega) w0 w6 (by omega) (by omega) h1
        have g2 := ih 2 w _ (by omega) w0 w6 (by omega) hr4 h3
        obtain ⟨f, g1⟩ := g1
        have ho : 2 ≤ (if tp_ch T n (tp_skip T n i) = 42 then (4 : Int) else 5) ∧ (if tp_ch T n (tp_skip T n i) = 42 then (4 : Int) else 5) ≤ 8 := by split <;> omega
        obtain ⟨f2, g2⟩ := g2 (lv_j (if tp_ch T n (tp_skip T n i) = 42 then (4 : Int) else 5) v f)
        exact ⟨f2, fun stk hs => lv_seq (g1 (v :: stk) (by simp only [lv_u, List.length_cons] at hs ⊢; simp at hs ⊢; omega)) (lv_cons (lv_op ho.1 ho.2) (g2 stk (by simp only [lv_u, List.length_cons] at hs ⊢; simp at hs ⊢; omega)))⟩
      · next e1 =>
        rw [if_neg e1]
        exact ⟨v, fun stk _ => rfl⟩
    · simp only [lp] at h ⊢
      obtain ⟨h1, h2⟩ := lp_b_inv h
      rw [h2] at h ⊢
      have hr := pr 1 w (i) (by omega) (by omega) (by omega)
      have hr3 := (hr.2.2 h1).1 rfl
      have hr4 := hr.2.1
      obtain ⟨h3, h4⟩ := lp_b_inv h
      rw [h4]
      have g1 := ih 1 w (i) (by omega) w0 w6 (by omega) (by omega) h1
      have g2 := ih 4 w _ (by omega) w0 w6 (by omega) hr4 h3
      obtain ⟨f, g1⟩ := g1
      obtain ⟨f2, g2⟩ := g2 f
      exact ⟨f2, fun stk hs => lv_seq (g1 stk (by simp only [lv_u, List.length_cons] at hs ⊢; simp at hs ⊢; omega)) (g2 stk (by simp only [lv_u, List.length_cons] at hs ⊢; simp at hs ⊢; omega))⟩
    · simp only [lp] at h ⊢
      intro v
      split at h
      · next e1 =>
        rw [if_pos e1]
        obtain ⟨h1, h2⟩ := lp_b_inv h
        rw [h2] at h ⊢
        have hr := pr 1 w (tp_skip T n i + 1) (by omega) (by omega) (by omega)
        have hr3 := (hr.2.2 h1).1 rfl
        have hr4 := hr.2.1
        obtain ⟨h3, h4⟩ := lp_b_inv h
        rw [h4]
        have g1 := ih 1 w (tp_skip T n i + 1) (by omega) w0 w6 (by omega) (by omega) h1
        have g2 := ih 4 w _ (by omega) w0 w6 (by omega) hr4 h3
        obtain ⟨f, g1⟩ := g1
        have ho : 2 ≤ (if tp_ch T n (tp_skip T n i) = 43 then (2 : Int) else 3) ∧ (if tp_ch T n (tp_skip T n i) = 43 then (2 : Int) else 3) ≤ 8 := by split <;> omega
        obtain ⟨f2, g2⟩ := g2 (lv_j (if tp_ch T n (tp_skip T n i) = 43 then (2 : Int) else 3) v f)
        exact ⟨f2, fun stk hs => lv_seq (g1 (v :: stk) (by simp only [lv_u, List.length_cons] at hs ⊢; simp at hs ⊢; omega)) (lv_cons (lv_op ho.1 ho.2) (g2 stk (by simp only [lv_u, List.length_cons] at hs ⊢; simp at hs ⊢; omega)))⟩
      · next e1 =>
        rw [if_neg e1]
        exact ⟨v, fun stk _ => rfl⟩
    · simp only [lp] at h ⊢
      intro v
      split at h
      · next e1 =>
        rw [if_pos e1]
        obtain ⟨h1, h2⟩ := lp_b_inv h
        rw [h2]
        have g1 := ih 3 w (tp_skip T n i + 1) (by omega) w0 w6 (by omega) (by omega) h1
        obtain ⟨f, g1⟩ := g1
        have ho : 6 ≤ (if tp_ch T n (tp_skip T n i) = 61 then (6 : Int) else if tp_ch T n (tp_skip T n i) = 60 then 7 else 8) ∧ (if tp_ch T n (tp_skip T n i) = 61 then (6 : Int) else if tp_ch T n (tp_skip T n i) = 60 then 7 else 8) ≤ 8 := by
          repeat' split
          all_goals omega
        exact ⟨_, lv_jb ho.1, fun stk hs => lv_seq (g1 (v :: stk) (by simp only [lv_u, List.length_cons] at hs ⊢; simp at hs ⊢; omega)) (lv_cons (lv_op (by omega) ho.2) rfl)⟩
      · simp at h
    · simp only [lp] at h ⊢
      split at h
      · next e1 =>
        rw [if_pos e1]
        split at h
        · simp at h
        · next e2 =>
          rw [if_neg e2]
          obtain ⟨h1, h2⟩ := lp_b_inv h
          rw [h2]
          have g1 := ih 6 (w + 1) (tp_skip T n i + 1) (by omega) (by omega) (by omega) (by omega) (by omega) h1
          obtain ⟨f, fb, g1⟩ := g1
          refine ⟨1 - f, by unfold lv_b at fb ⊢; omega, fun stk hs => lv_seq (g1 stk (by simp only [lv_u, List.length_cons] at hs ⊢; simp at hs ⊢; omega)) (lv_cons ?_ rfl)⟩
          unfold lv_step
          rw [if_neg (by omega), if_neg (by omega), if_pos (by omega)]
          exact if_pos ⟨fb, rfl⟩
      · next e1 =>
        rw [if_neg e1]
        split at h
        · next e2 =>
          rw [if_pos e2]
          split at h
          · simp at h
          · next e3 =>
            rw [if_neg e3]
            obtain ⟨h1, h2⟩ := lp_b_inv h
            rw [h2] at h ⊢
            have g1 := ih 9 (w + 1) (tp_skip T n i + 1) (by omega) (by omega) (by omega) (by omega) (by omega) h1
            obtain ⟨f, fb, g1⟩ := g1
            rw [lp_e_inv h]
            exact ⟨f, fb, fun stk hs => g1 stk (by simp only [lv_u, List.length_cons] at hs ⊢; simp at hs ⊢; omega)⟩
        · next e2 =>
          rw [if_neg e2]
          obtain ⟨h1, h2⟩ := lp_b_inv h
          rw [h2] at h ⊢
          have hr := pr 3 w (i) (by omega) (by omega) (by omega)
          have hr3 := (hr.2.2 h1).1 rfl
          have hr4 := hr.2.1
          obtain ⟨h3, h4⟩ := lp_b_inv h
          rw [h4]
          have g1 := ih 3 w (i) (by omega) w0 w6 (by omega) (by omega) h1
          have g2 := ih 5 w _ (by omega) w0 w6 (by omega) hr4 h3
          obtain ⟨f, g1⟩ := g1
          obtain ⟨f2, fb, g2⟩ := g2 f
          exact ⟨f2, fb, fun stk hs => lv_seq (g1 stk (by simp only [lv_u, List.length_cons] at hs ⊢; simp at hs ⊢; omega)) (g2 stk (by simp only [lv_u, List.length_cons] at hs ⊢; simp at hs ⊢; omega))⟩
    · simp only [lp] at h ⊢
      intro v vb
      split at h
      · next e1 =>
        rw [if_pos e1]
        obtain ⟨h1, h2⟩ := lp_b_inv h
        rw [h2] at h ⊢
        have hr := pr 6 w (tp_skip T n i + 1) (by omega) (by omega) (by omega)
        have hr3 := (hr.2.2 h1).1 rfl
        have hr4 := hr.2.1
        obtain ⟨h3, h4⟩ := lp_b_inv h
        rw [h4]
        have g1 := ih 6 w (tp_skip T n i + 1) (by omega) w0 w6 (by omega) (by omega) h1
        have g2 := ih 7 w _ (by omega) w0 w6 (by omega) hr4 h3
        obtain ⟨f, fb, g1⟩ := g1
        obtain ⟨f2, fb2, g2⟩ := g2 (lv_j 10 v f) (lv_jb (by omega))
        exact ⟨f2, fb2, fun stk hs => lv_seq (g1 (v :: stk) (by simp only [lv_u, List.length_cons] at hs ⊢; simp at hs ⊢; omega)) (lv_cons (lv_opb (by omega) fb vb) (g2 stk (by simp only [lv_u, List.length_cons] at hs ⊢; simp at hs ⊢; omega)))⟩
      · next e1 =>
        rw [if_neg e1]
        exact ⟨v, vb, fun stk _ => rfl⟩
    · simp only [lp] at h ⊢
      intro v vb
      split at h
      · next e1 =>
        rw [if_pos e1]
        obtain ⟨h1, h2⟩ := lp_b_inv h
        rw [h2] at h ⊢
        have hr := pr 6 w (tp_skip T n i + 1) (by omega) (by omega) (by omega)
        have hr3 := (hr.2.2 h1).1 rfl
        have hr4 := hr.2.1
        obtain ⟨h3, h4⟩ := lp_b_inv h
        rw [h4] at h ⊢
        have g1 := ih 6 w (tp_skip T n i + 1) (by omega) w0 w6 (by omega) (by omega) h1
        have g2 := ih 7 w _ (by omega) w0 w6 (by omega) hr4 h3
        have hq := pr 7 w _ (by omega) hr4 (by omega)
        obtain ⟨h5, h6⟩ := lp_b_inv h
        rw [h6]
        have g3 := ih 8 w _ (by omega) w0 w6 (by have := hq.1; omega) hq.2.1 h5
        obtain ⟨f, fb, g1⟩ := g1
        obtain ⟨f2, fb2, g2⟩ := g2 f fb
        obtain ⟨f3, fb3, g3⟩ := g3 (lv_j 11 v f2) (lv_jb (by omega))
        exact ⟨f3, fb3, fun stk hs => lv_seq (g1 (v :: stk) (by simp only [lv_u, List.length_cons] at hs ⊢; simp at hs ⊢; omega)) (lv_seq (g2 (v :: stk) (by simp only [lv_u, List.length_cons] at hs ⊢; simp at hs ⊢; omega)) (lv_cons (lv_opb (by omega) fb2 vb) (g3 stk (by simp only [lv_u, List.length_cons] at hs ⊢; simp at hs ⊢; omega))))⟩
      · next e1 =>
        rw [if_neg e1]
        exact ⟨v, vb, fun stk _ => rfl⟩
    · simp only [lp] at h ⊢
      obtain ⟨h1, h2⟩ := lp_b_inv h
      rw [h2] at h ⊢
      have hr := pr 6 w (i) (by omega) (by omega) (by omega)
      have hr3 := (hr.2.2 h1).1 rfl
      have hr4 := hr.2.1
      obtain ⟨h3, h4⟩ := lp_b_inv h
      rw [h4] at h ⊢
      have g1 := ih 6 w (i) (by omega) w0 w6 (by omega) (by omega) h1
      have g2 := ih 7 w _ (by omega) w0 w6 (by omega) hr4 h3
      have hq := pr 7 w _ (by omega) hr4 (by omega)
      obtain ⟨h5, h6⟩ := lp_b_inv h
      rw [h6]
      have g3 := ih 8 w _ (by omega) w0 w6 (by have := hq.1; omega) hq.2.1 h5
      obtain ⟨f, fb, g1⟩ := g1
      obtain ⟨f2, fb2, g2⟩ := g2 f fb
      obtain ⟨f3, fb3, g3⟩ := g3 f2 fb2
      exact ⟨f3, fb3, fun stk hs => lv_seq (g1 stk (by simp only [lv_u, List.length_cons] at hs ⊢; simp at hs ⊢; omega)) (lv_seq (g2 stk (by simp only [lv_u, List.length_cons] at hs ⊢; simp at hs ⊢; omega)) (g3 stk (by simp only [lv_u, List.length_cons] at hs ⊢; simp at hs ⊢; omega)))⟩
