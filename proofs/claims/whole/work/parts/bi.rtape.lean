/-! ===== both sides: the tape, and what is read of it ===== -/
def gl (g : Int → Int) : Nat → Int → List Int
  | 0, _ => []
  | n + 1, i => g i :: gl g n (i + 1)
theorem gl_cnt (g : Int → Int) : ∀ (n : Nat) (i : Int), fd_cnt (gl g n i) = sk_sm (fun k => if g k = 0 then 0 else 1) i n
  | 0, _ => rfl
  | n + 1, i => by simp only [gl, fd_cnt, sk_sm, gl_cnt g n (i + 1)]
theorem gl_all (x1 x2 x3 x4 x5 : Int) : ∀ (n : Nat) (i : Int) (T : Int → Int) (m : Int), fd_all (gl (fd_g x1 x2 x3 x4 x5) n i) T m = sk_fd (fd_st x1 x2 x3 x4 x5) i n (T, m)
  | 0, _, _, _ => rfl
  | n + 1, i, T, m => by
    simp only [gl, fd_all, sk_fd, fd_st]
    by_cases e : fd_g x1 x2 x3 x4 x5 i = 0
    · rw [if_pos e, if_pos e]; exact gl_all x1 x2 x3 x4 x5 n (i + 1) T m
    · rw [if_neg e, if_neg e]; exact gl_all x1 x2 x3 x4 x5 n (i + 1) _ _
theorem fd_bs_gl (x1 x2 x3 x4 x5 : Int) : fd_bs x1 x2 x3 x4 x5 = gl (fd_g x1 x2 x3 x4 x5) 20 0 := rfl
theorem gl_in {g : Int → Int} {n : Nat} {i : Int} (h : ∀ k, 0 ≤ g k ∧ g k < 256) : ∀ x ∈ gl g n i, 0 ≤ x ∧ x < 256 := by
  induction n generalizing i with
  | zero => intro x hx; simp [gl] at hx
  | succ n ih =>
    intro x hx
    simp only [gl, List.mem_cons] at hx
    rcases hx with rfl | hx
    · exact h i
    · exact ih x hx
/-- alike ahead of n -/
def ta (T T' : Int → Int) (n : Int) : Prop := ∀ j, j < n → T j = T' j
theorem fd_ag (x1 x2 x3 x4 x5 : Int) : ∀ (k : Nat) (i : Int) (T T' : Int → Int) (m : Int), ta T T' m → (sk_fd (fd_st x1 x2 x3 x4 x5) i k (T, m)).2 = (sk_fd (fd_st x1 x2 x3 x4 x5) i k (T', m)).2 ∧ ta (sk_fd (fd_st x1 x2 x3 x4 x5) i k (T, m)).1 (sk_fd (fd_st x1 x2 x3 x4 x5) i k (T', m)).1 (sk_fd (fd_st x1 x2 x3 x4 x5) i k (T, m)).2
  | 0, _, _, _, _, h => ⟨rfl, h⟩
  | k + 1, i, T, T', m, h => by
    simp only [sk_fd, fd_st]
    by_cases e : fd_g x1 x2 x3 x4 x5 i = 0
    · simp only [if_pos e]
      exact fd_ag x1 x2 x3 x4 x5 k (i + 1) T T' m h
    · simp only [if_neg e]
      refine fd_ag x1 x2 x3 x4 x5 k (i + 1) _ _ (m + 1) (fun j hj => ?_)
      by_cases ej : j = m
      · subst ej; rw [sk_up_self, sk_up_self]
      · rw [sk_up_ne _ _ ej, sk_up_ne _ _ ej]; exact h j (by omega)
/-- bytes fed to both -/
theorem feed_eq {x1 x2 x3 x4 x5 n : Int} {T T' : Int → Int} (hT : tp_ok T n) (h : ta T T' n) :
    ((fd_try (fd_bs x1 x2 x3 x4 x5) T n).1 = true → n + sk_sm (fun k => if fd_g x1 x2 x3 x4 x5 k = 0 then 0 else 1) 0 20 ≤ 240 ∧ (fd_try (fd_bs x1 x2 x3 x4 x5) T n).2.2 = (sk_fd (fd_st x1 x2 x3 x4 x5) 0 20 (T', n)).2 ∧ ta (fd_try (fd_bs x1 x2 x3 x4 x5) T n).2.1 (sk_fd (fd_st x1 x2 x3 x4 x5) 0 20 (T', n)).1 (fd_try (fd_bs x1 x2 x3 x4 x5) T n).2.2 ∧ tp_ok (fd_try (fd_bs x1 x2 x3 x4 x5) T n).2.1 (fd_try (fd_bs x1 x2 x3 x4 x5) T n).2.2) ∧
    ((fd_try (fd_bs x1 x2 x3 x4 x5) T n).1 = false → 240 < n + sk_sm (fun k => if fd_g x1 x2 x3 x4 x5 k = 0 then 0 else 1) 0 20 ∧ ta (fd_try (fd_bs x1 x2 x3 x4 x5) T n).2.1 T' n ∧ tp_ok (fd_try (fd_bs x1 x2 x3 x4 x5) T n).2.1 n) := by
  have hb : fd_cnt (fd_bs x1 x2 x3 x4 x5) = sk_sm (fun k => if fd_g x1 x2 x3 x4 x5 k = 0 then 0 else 1) 0 20 := by rw [fd_bs_gl]; exact gl_cnt _ 20 0
  have hok := fd_try_ok (fd_bs x1 x2 x3 x4 x5) T n hT (by rw [fd_bs_gl]; exact gl_in (fun k => fd_g_in x1 x2 x3 x4 x5 k))
  have hlow := fd_try_low (fd_bs x1 x2 x3 x4 x5) T n hT.2.1
  refine ⟨fun e => ?_, fun e => ?_⟩
  · by_cases c : n + fd_cnt (fd_bs x1 x2 x3 x4 x5) ≤ 240
    · have hy := fd_try_yes _ T n c
      have ha := fd_ag x1 x2 x3 x4 x5 20 0 T T' n h
      rw [fd_bs_gl, gl_all, ← fd_bs_gl] at hy
      refine ⟨by omega, ?_, ?_, hok⟩
      · rw [hy]; exact ha.1
      · rw [hy]; exact ha.2
    · have := fd_try_no (fd_bs x1 x2 x3 x4 x5) T n hT.2.1 (by omega)
      rw [e] at this
      simp at this
  · by_cases c : n + fd_cnt (fd_bs x1 x2 x3 x4 x5) ≤ 240
    · have := fd_try_yes _ T n c
      rw [this] at e
      simp at e
    · exact ⟨by omega, fun j hj => (hlow.2.2 j hj).trans (h j hj), hT.1, hT.2.1, fun j j0 j1 => by rw [hlow.2.2 j j1]; exact hT.2.2 j j0 j1⟩
section TAG
variable {T T' : Int → Int} {n : Int}
theorem ta_sk (h : ta T T' n) : ∀ (k : Nat) (i : Int), tp_sk T n k i = tp_sk T' n k i
  | 0, i => rfl
  | k + 1, i => by
    simp only [tp_sk]
    by_cases c : i < n
    · rw [h i c, ta_sk h k (i + 1)]
    · rw [if_neg (fun q => c q.1), if_neg (fun q => c q.1)]
theorem ta_skip (h : ta T T' n) : tp_skip T n = tp_skip T' n := by funext i; exact ta_sk h _ _
theorem ta_ch (h : ta T T' n) : tp_ch T n = tp_ch T' n := by
  funext i
  unfold tp_ch
  by_cases c : i < n
  · rw [if_pos c, if_pos c, h i c]
  · rw [if_neg c, if_neg c]
theorem ta_num (h : ta T T' n) (most : Int) : ∀ (k : Nat) (i v dg : Int), tp_num T n most k i v dg = tp_num T' n most k i v dg
  | 0, i, v, dg => rfl
  | k + 1, i, v, dg => by
    simp only [tp_num]
    by_cases c : i < n
    · rw [h i c, ta_num h most k]
    · simp only [c, false_and, if_false]
theorem ta_number (h : ta T T' n) : tp_number T n = tp_number T' n := by
  funext most i
  unfold tp_number
  rw [ta_skip h, ta_num h]
theorem ta_lp (h : ta T T' n) : ∀ F : Nat, lp T n F = lp T' n F
  | 0 => by
    funext t w i
    simp only [lp, ta_skip h]
  | F + 1 => by
    have ih := ta_lp h F
    have he : lp_e T n = lp_e T' n := by
      funext x i cs
      unfold lp_e
      rw [ta_skip h, ta_ch h]
    funext t w i
    have hst : t = 0 ∨ t = 1 ∨ t = 2 ∨ t = 3 ∨ t = 4 ∨ t = 5 ∨ t = 6 ∨ t = 7 ∨ t = 8 ∨ ∃ k, t = k + 9 := by
      by_cases c : t < 9
      · omega
      · exact Or.inr (Or.inr (Or.inr (Or.inr (Or.inr (Or.inr (Or.inr (Or.inr (Or.inr ⟨t - 9, by omega⟩))))))))
    rcases hst with rfl | rfl | rfl | rfl | rfl | rfl | rfl | rfl | rfl | ⟨k, rfl⟩
    all_goals simp only [lp, ih, he, ta_skip h, ta_ch h, ta_number h]
theorem ta_lq (h : ta T T' n) : lq T n = lq T' n := by
  have h1 := fun F => ta_lp h F
  have h2 := ta_skip h
  have h3 := ta_ch h
  have hc : lq_cmp T n = lq_cmp T' n := by funext i; unfold lq_cmp; rw [h1]
  have hf : lq_fin T n = lq_fin T' n := by funext i; unfold lq_fin; rw [h1, h2, h3]
  have ha : lq_at T n = lq_at T' n := by funext i; unfold lq_at; rw [h1, h2, h3, hf, hc]
  funext i
  unfold lq
  rw [h2, h3, ha]
theorem ta_lr (h : ta T T' n) : ∀ k : Nat, lr T n k = lr T' n k
  | 0 => by funext i; simp only [lr, ta_skip h]
  | k + 1 => by funext i; simp only [lr, ta_lr h k, ta_lq h, ta_skip h, ta_ch h]
theorem ta_rl (h : ta T T' n) : ∀ k : Nat, rl T n k = rl T' n k
  | 0 => by funext i p s; simp only [rl, ta_skip h]
  | k + 1 => by funext i p s; simp only [rl, ta_rl h k, ta_skip h, ta_ch h]
theorem ta_rw (h : ta T T' n) : ∀ k : Nat, rw' T n k = rw' T' n k
  | 0 => by funext i s; simp only [rw']
  | k + 1 => by funext i s; simp only [rw', ta_rl h, ta_rw h k, ta_ch h]
theorem ta_si (h : ta T T' n) (kd : Bool) (fr : Int) : ∀ k : Nat, si T n kd fr k = si T' n kd fr k
  | 0 => by funext i s v; simp only [si, ta_skip h]
  | k + 1 => by funext i s v; simp only [si, ta_si h kd fr k, ta_skip h, ta_ch h, ta_number h]
theorem ta_sr (h : ta T T' n) : ∀ k : Nat, sr T n k = sr T' n k
  | 0 => by funext i s; simp only [sr, ta_skip h]
  | k + 1 => by
    have hc : sr_c T n = sr_c T' n := by funext i s; simp only [sr_c, ta_si h, ta_skip h, ta_ch h]
    funext i s; simp only [sr, ta_sr h k, hc, ta_skip h, ta_ch h]
/-- items: what was there ahead of them is told nowhere -/
theorem si_st (kd : Bool) (fr : Int) : ∀ (k : Nat) (i sn : Int) (v v' : Int → Int), (si T n kd fr k i sn v).1 = (si T n kd fr k i sn v').1 ∧ (si T n kd fr k i sn v).2.1 = (si T n kd fr k i sn v').2.1 ∧ ∀ j, v j = v' j → (si T n kd fr k i sn v).2.2 j = (si T n kd fr k i sn v').2.2 j
  | 0, i, sn, v, v' => ⟨rfl, rfl, fun j hj => hj⟩
  | k + 1, i, sn, v, v' => by
    simp only [si]
    split
    · exact ⟨rfl, rfl, fun j hj => hj⟩
    · split
      · exact ⟨rfl, rfl, fun j hj => hj⟩
      · split
        · exact ⟨rfl, rfl, fun j hj => hj⟩
        · have ih := si_st kd fr k (tp_number T n 2 (tp_skip T n i + 1)).2 (sk_or sn (sk_shl 1 (si_w kd (tp_ch T n (tp_skip T n i))))) (sk_up v (fr + si_w kd (tp_ch T n (tp_skip T n i))) (tp_number T n 2 (tp_skip T n i + 1)).1) (sk_up v' (fr + si_w kd (tp_ch T n (tp_skip T n i))) (tp_number T n 2 (tp_skip T n i + 1)).1)
          refine ⟨ih.1, ih.2.1, fun j hj => ih.2.2 j ?_⟩
          unfold sk_up
          split
          · rfl
          · exact hj
/-- read so far alike -/
def ra' (s s' : sr_S) : Prop := s.1 = s'.1 ∧ s.2.1 = s'.2.1 ∧ (∀ j, 0 ≤ j → j < 4 → s.2.2.1 j = s'.2.2.1 j) ∧ ∀ j, 0 ≤ j → j < 2 * s.1 → s.2.2.2 j = s'.2.2.2 j
theorem sr_c_st (i : Int) {s s' : sr_S} (h : ra' s s') : (sr_c T n i s).1 = (sr_c T n i s').1 ∧ (sr_c T n i s).2.1 = (sr_c T n i s').2.1 ∧ ra' (sr_c T n i s).2.2 (sr_c T n i s').2.2 := by
  obtain ⟨h1, h2, h3, h4⟩ := h
  unfold sr_c
  rw [← h1, ← h2]
  split
  · have q := si_st (T := T) (n := n) true 0 5 (tp_skip T n i + 1) 0 s.2.2.1 s'.2.2.1
    exact ⟨q.1, q.2.1, rfl, rfl, fun j j0 j1 => q.2.2 j (h3 j j0 j1), h4⟩
  · split
    · have q := si_st (T := T) (n := n) false (2 * s.1) 3 (tp_skip T n i + 1) 0 (sk_up (sk_up s.2.2.2 (2 * s.1) 6) (2 * s.1 + 1) 1) (sk_up (sk_up s'.2.2.2 (2 * s.1) 6) (2 * s.1 + 1) 1)
      refine ⟨q.1, q.2.1, rfl, rfl, h3, fun j j0 j1 => q.2.2 j ?_⟩
      simp only [] at j1
      unfold sk_up
      split
      · rfl
      · split
        · rfl
        · exact h4 j j0 (by omega)
    · exact ⟨rfl, rfl, h1, h2, h3, h4⟩
theorem sr_st : ∀ (k : Nat) (i : Int) {s s' : sr_S}, ra' s s' → (sr T n k i s).1 = (sr T n k i s').1 ∧ (sr T n k i s).2.1 = (sr T n k i s').2.1 ∧ ra' (sr T n k i s).2.2 (sr T n k i s').2.2
  | 0, i, s, s', h => ⟨rfl, rfl, h⟩
  | k + 1, i, s, s', h => by
    have q := sr_c_st (T := T) (n := n) i h
    simp only [sr]
    rw [← q.1, ← q.2.1]
    split
    · split
      · exact ⟨by rw [q.2.2.1], rfl, q.2.2⟩
      · split
        · exact sr_st k _ q.2.2
        · exact ⟨rfl, rfl, q.2.2⟩
    · exact ⟨rfl, rfl, q.2.2⟩
/-- the class's buffers and the reference's read alike -/
theorem sr_both {R2 H2 R2' H2' : Int → Int} (h : ta T T' n) : (sr T n 300 0 (rs0 R2 H2)).1 = (sr T' n 300 0 (rs0 R2' H2')).1 ∧ (sr T n 300 0 (rs0 R2 H2)).2.1 = (sr T' n 300 0 (rs0 R2' H2')).2.1 ∧ ra' (sr T n 300 0 (rs0 R2 H2)).2.2 (sr T' n 300 0 (rs0 R2' H2')).2.2 := by
  rw [ta_sr h]
  refine sr_st 300 0 ⟨rfl, rfl, fun j j0 j1 => ?_, fun j j0 j1 => ?_⟩
  · show sk_up (sk_up (sk_up (sk_up R2 0 6) 1 4) 2 3) 3 20 j = sk_up (sk_up (sk_up (sk_up R2' 0 6) 1 4) 2 3) 3 20 j
    unfold sk_up
    split
    · rfl
    · split
      · rfl
      · split
        · rfl
        · split
          · rfl
          · omega
  · simp only [rs0] at j1; omega
end TAG
