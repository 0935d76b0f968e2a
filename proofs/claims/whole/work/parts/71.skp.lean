/-! ===== skins: the pure reader ===== -/
/-- which item: of s (k true) or of h -/
def si_w (k : Bool) (c : Int) : Int := match k with
  | true => if c = 119 then 0 else if c = 114 then 1 else if c = 108 then 2 else if c = 107 then 3 else -1
  | false => if c = 105 then 0 else if c = 102 then 1 else -1
def si_lo (k : Bool) (w : Int) : Int := match k with
  | true => if w = 0 then 2 else if w = 3 then 0 else 1
  | false => if w = 0 then 1 else 0
def si_hi (k : Bool) (w : Int) : Int := match k with
  | true => if w = 0 then 8 else if w = 1 then 5 else if w = 2 then 9 else 99
  | false => 9
def si_n (k : Bool) : Int := match k with
  | true => 4
  | false => 2
/-- items: whether well, where, the values (from place fr on) -/
def si (T : Int → Int) (n : Int) (kd : Bool) (fr : Int) : Nat → Int → Int → (Int → Int) → Bool × Int × (Int → Int)
  | 0, i, _, v => (true, tp_skip T n i, v)
  | k + 1, i, sn, v => if si_w kd (tp_ch T n (tp_skip T n i)) = -1 ∨ sk_and (sk_shr sn (si_w kd (tp_ch T n (tp_skip T n i)))) 1 = 1 then (true, tp_skip T n i, v)
      else if (tp_number T n 2 (tp_skip T n i + 1)).1 = -1 then (false, (tp_number T n 2 (tp_skip T n i + 1)).2, v)
      else if (tp_number T n 2 (tp_skip T n i + 1)).1 < si_lo kd (si_w kd (tp_ch T n (tp_skip T n i))) ∨ si_hi kd (si_w kd (tp_ch T n (tp_skip T n i))) < (tp_number T n 2 (tp_skip T n i + 1)).1 then (false, (tp_number T n 2 (tp_skip T n i + 1)).2 - 1, v)
      else si T n kd fr k (tp_number T n 2 (tp_skip T n i + 1)).2 (sk_or sn (sk_shl 1 (si_w kd (tp_ch T n (tp_skip T n i))))) (sk_up v (fr + si_w kd (tp_ch T n (tp_skip T n i))) (tp_number T n 2 (tp_skip T n i + 1)).1)
theorem si_w_in (k : Bool) (c : Int) : -1 ≤ si_w k c ∧ si_w k c < si_n k ∧ si_n k ≤ 4 ∧ 2 ≤ si_n k := by
  cases k <;> simp only [si_w, si_n]
  all_goals repeat' split
  all_goals omega
/-- bits of small sets -/
def si_pc (s : Int) : Int := s % 2 + s / 2 % 2 + s / 4 % 2 + s / 8 % 2
theorem si_bit0 : ∀ s : Nat, s < 16 → ∀ w : Nat, w < 4 → (sk_and (sk_shr (s : Int) (w : Int)) 1 = 0 ∨ sk_and (sk_shr (s : Int) (w : Int)) 1 = 1) := by decide +kernel
theorem si_bit1 : ∀ s : Nat, s < 16 → ∀ w : Nat, w < 4 → (0 ≤ sk_or (s : Int) (sk_shl 1 (w : Int)) ∧ sk_or (s : Int) (sk_shl 1 (w : Int)) < 16) := by decide +kernel
theorem si_bit2 : ∀ s : Nat, s < 16 → ∀ w : Nat, w < 4 → (sk_and (sk_shr (s : Int) (w : Int)) 1 ≠ 1 → si_pc (sk_or (s : Int) (sk_shl 1 (w : Int))) = si_pc s + 1) := by decide +kernel
theorem si_bit3 : ∀ s : Nat, s < 16 → ∀ w : Nat, w < 4 → (s = 15 → sk_and (sk_shr (s : Int) (w : Int)) 1 = 1) := by decide +kernel
theorem si_bit4 : ∀ s : Nat, s < 16 → ∀ w : Nat, w < 4 → (s < 4 → w < 2 → sk_or (s : Int) (sk_shl 1 (w : Int)) < 4) := by decide +kernel
theorem si_bit5 : ∀ s : Nat, s < 16 → ∀ w : Nat, w < 4 → (s = 3 → w < 2 → sk_and (sk_shr (s : Int) (w : Int)) 1 = 1) := by decide +kernel
theorem si_full : ∀ s : Nat, s < 16 → (si_pc (s : Int) ≤ 4 ∧ 0 ≤ si_pc (s : Int)) ∧ (si_pc (s : Int) = 4 → s = 15) ∧ (s < 4 → si_pc (s : Int) = 2 → s = 3) ∧ (s < 4 → si_pc (s : Int) ≤ 2) := by decide +kernel
/-- a set of items of a kind -/
def si_ok (kd : Bool) (s : Int) : Prop := 0 ≤ s ∧ s < 16 ∧ (kd = false → s < 4)
theorem si_step {kd : Bool} {s w : Int} (h : si_ok kd s) (w0 : 0 ≤ w) (w1 : w < si_n kd) : (sk_and (sk_shr s w) 1 = 0 ∨ sk_and (sk_shr s w) 1 = 1) ∧ si_ok kd (sk_or s (sk_shl 1 w)) ∧ (sk_and (sk_shr s w) 1 ≠ 1 → si_pc (sk_or s (sk_shl 1 w)) = si_pc s + 1) ∧ (si_pc s = si_n kd → sk_and (sk_shr s w) 1 = 1) ∧ si_pc s ≤ si_n kd ∧ 0 ≤ si_pc s := by
  obtain ⟨h0, h1, h2⟩ := h
  obtain ⟨s', rfl⟩ := sk_nat h0
  obtain ⟨w', rfl⟩ := sk_nat w0
  have hw : w' < 4 := by cases kd <;> simp only [si_n] at w1 <;> omega
  have b1 := si_bit0 s' (by omega) w' hw
  obtain ⟨b2, b3⟩ := si_bit1 s' (by omega) w' hw
  have b4 := si_bit2 s' (by omega) w' hw
  have b5 := si_bit3 s' (by omega) w' hw
  have b6 := si_bit4 s' (by omega) w' hw
  have b7 := si_bit5 s' (by omega) w' hw
  obtain ⟨f1, f2, f3, f4⟩ := si_full s' (by omega)
  refine ⟨b1, ⟨b2, b3, fun e => ?_⟩, b4, fun e => ?_, ?_, f1.2⟩
  · subst e
    simp only [si_n] at w1
    exact b6 (by have := h2 rfl; omega) (by omega)
  · cases kd
    · simp only [si_n] at w1 e
      exact b7 (f3 (by have := h2 rfl; omega) e) (by omega)
    · simp only [si_n] at e
      exact b5 (f2 e)
  · cases kd
    · simp only [si_n]
      exact f4 (by have := h2 rfl; omega)
    · exact f1.1
theorem si_in {T : Int → Int} {n : Int} (hT : tp_ok T n) (kd : Bool) (fr : Int) : ∀ (k : Nat) (i sn : Int) (v : Int → Int), 0 ≤ i → i ≤ n → i ≤ (si T n kd fr k i sn v).2.1 ∧ (si T n kd fr k i sn v).2.1 ≤ n
  | 0, i, sn, v, i0, i1 => ⟨tp_skip_ge T n i, tp_skip_le T i1⟩
  | k + 1, i, sn, v, i0, i1 => by
    have a1 := tp_skip_ge T n i
    have a2 := tp_skip_le T i1
    have a3 := tp_ch_in (i := tp_skip T n i) hT (by omega)
    have w9 : si_w kd (-1) = -1 := by cases kd <;> rfl
    simp only [si]
    split
    · exact ⟨a1, a2⟩
    · next e1 =>
      have e2 : tp_ch T n (tp_skip T n i) ≠ -1 := by intro e; rw [e, w9] at e1; exact e1 (Or.inl rfl)
      have q := tp_number_in (most := 2) (show tp_skip T n i + 1 ≤ n by omega) (by omega) hT (by omega)
      have q2 := tp_skip_ge T n (tp_skip T n i + 1)
      have a4 := tp_ch_in (i := tp_skip T n (tp_skip T n i + 1)) hT (by omega)
      split
      · exact ⟨by simp only []; omega, q.2.1⟩
      · split
        · next e3 e4 =>
          by_cases e5 : tp_skip T n i + 1 < (tp_number T n 2 (tp_skip T n i + 1)).2
          · exact ⟨by simp only []; omega, by simp only []; omega⟩
          · exact ⟨by simp only []; omega, by simp only []; omega⟩
        · have := si_in hT kd fr k (tp_number T n 2 (tp_skip T n i + 1)).2 (sk_or sn (sk_shl 1 (si_w kd (tp_ch T n (tp_skip T n i))))) (sk_up v (fr + si_w kd (tp_ch T n (tp_skip T n i))) (tp_number T n 2 (tp_skip T n i + 1)).1) (by omega) q.2.1
          omega
/-- a clause: hands, rules there, their values, the hands' -/
abbrev sr_S : Type := Int × Bool × (Int → Int) × (Int → Int)
def sr_c (T : Int → Int) (n i : Int) (s : sr_S) : Bool × Int × sr_S :=
  if tp_ch T n (tp_skip T n i) = 115 ∧ s.2.1 = false then ((si T n true 0 5 (tp_skip T n i + 1) 0 s.2.2.1).1, (si T n true 0 5 (tp_skip T n i + 1) 0 s.2.2.1).2.1, s.1, true, (si T n true 0 5 (tp_skip T n i + 1) 0 s.2.2.1).2.2, s.2.2.2)
  else if tp_ch T n (tp_skip T n i) = 104 ∧ s.1 < 4 then ((si T n false (2 * s.1) 3 (tp_skip T n i + 1) 0 (sk_up (sk_up s.2.2.2 (2 * s.1) 6) (2 * s.1 + 1) 1)).1, (si T n false (2 * s.1) 3 (tp_skip T n i + 1) 0 (sk_up (sk_up s.2.2.2 (2 * s.1) 6) (2 * s.1 + 1) 1)).2.1, s.1 + 1, s.2.1, s.2.2.1, (si T n false (2 * s.1) 3 (tp_skip T n i + 1) 0 (sk_up (sk_up s.2.2.2 (2 * s.1) 6) (2 * s.1 + 1) 1)).2.2)
  else (false, tp_skip T n i, s)
def sr (T : Int → Int) (n : Int) : Nat → Int → sr_S → Bool × Int × sr_S
  | 0, i, s => (false, tp_skip T n i, s)
  | k + 1, i, s => if (sr_c T n i s).1 = true then
      (if tp_ch T n (tp_skip T n (sr_c T n i s).2.1) = -1 then (decide (0 < (sr_c T n i s).2.2.1), tp_skip T n (sr_c T n i s).2.1, (sr_c T n i s).2.2)
       else if tp_ch T n (tp_skip T n (sr_c T n i s).2.1) = 59 then sr T n k (tp_skip T n (sr_c T n i s).2.1 + 1) (sr_c T n i s).2.2
       else (false, tp_skip T n (sr_c T n i s).2.1, (sr_c T n i s).2.2))
    else (false, (sr_c T n i s).2.1, (sr_c T n i s).2.2)
