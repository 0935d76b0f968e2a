/-! ===== the start: what the words say of the law's first state ===== -/
section SW
variable {s : State} {b : Nat}
theorem sw_classes {a : Array Value} (hts : ∀ w ∈ lw_tbl, w.before a s = true) : ∃ D : va_G, va_K D vwCl [] s := by
  have h : ∀ k : Nat, ∃ r : ClassId × (Nat → Nat), ∀ q : vw_C, vwCl[k]? = some q → u_Kn s q.1 q.2.1 q.2.2 r.1 r.2 := by
    intro k
    match k with
    | 0 =>
      obtain ⟨c, i, h⟩ := u_known (C := RX0) (T := TX0) (N := 6) (n := 6) hts sk_inX0 (hts (.instantiable RX0 6) (by decide +kernel))
      exact ⟨(c, i), fun q hq => by cases hq; exact h⟩
    | 1 =>
      obtain ⟨c, i, h⟩ := u_known (C := RX1) (T := TX1) (N := 5) (n := 5) hts sk_inX1 (hts (.instantiable RX1 5) (by decide +kernel))
      exact ⟨(c, i), fun q hq => by cases hq; exact h⟩
    | 2 =>
      obtain ⟨c, i, h⟩ := u_known (C := RX2) (T := TX2) (N := 1) (n := 1) hts sk_inX2 (hts (.instantiable RX2 1) (by decide +kernel))
      exact ⟨(c, i), fun q hq => by cases hq; exact h⟩
    | 3 =>
      obtain ⟨c, i, h⟩ := u_known (C := RX3) (T := TX3) (N := 5) (n := 5) hts sk_inX3 (hts (.instantiable RX3 5) (by decide +kernel))
      exact ⟨(c, i), fun q hq => by cases hq; exact h⟩
    | 4 =>
      obtain ⟨c, i, h⟩ := u_known (C := RX4) (T := TX4) (N := 4) (n := 4) hts sk_inX4 (hts (.instantiable RX4 4) (by decide +kernel))
      exact ⟨(c, i), fun q hq => by cases hq; exact h⟩
    | 5 =>
      obtain ⟨c, i, h⟩ := u_known (C := RX5) (T := TX5) (N := 6) (n := 6) hts sk_inX5 (hts (.instantiable RX5 6) (by decide +kernel))
      exact ⟨(c, i), fun q hq => by cases hq; exact h⟩
    | 6 =>
      obtain ⟨c, i, h⟩ := u_known (C := RX6) (T := TX6) (N := 4) (n := 4) hts sk_inX6 (hts (.instantiable RX6 4) (by decide +kernel))
      exact ⟨(c, i), fun q hq => by cases hq; exact h⟩
    | 7 =>
      obtain ⟨c, i, h⟩ := u_known (C := RX7) (T := TX7) (N := 4) (n := 4) hts sk_inX7 (hts (.instantiable RX7 4) (by decide +kernel))
      exact ⟨(c, i), fun q hq => by cases hq; exact h⟩
    | 8 =>
      obtain ⟨c, i, h⟩ := u_known (C := RX8) (T := TX8) (N := 7) (n := 7) hts sk_inX8 (hts (.instantiable RX8 7) (by decide +kernel))
      exact ⟨(c, i), fun q hq => by cases hq; exact h⟩
    | 9 =>
      obtain ⟨c, i, h⟩ := u_known (C := RX9) (T := TX9) (N := 3) (n := 3) hts sk_inX9 (hts (.instantiable RX9 3) (by decide +kernel))
      exact ⟨(c, i), fun q hq => by cases hq; exact h⟩
    | 10 =>
      obtain ⟨c, i, h⟩ := u_known (C := RX10) (T := TX10) (N := 9) (n := 9) hts sk_inX10 (hts (.instantiable RX10 9) (by decide +kernel))
      exact ⟨(c, i), fun q hq => by cases hq; exact h⟩
    | 11 =>
      obtain ⟨c, i, h⟩ := u_known (C := RX11) (T := TX11) (N := 17) (n := 17) hts sk_inX11 (hts (.instantiable RX11 17) (by decide +kernel))
      exact ⟨(c, i), fun q hq => by cases hq; exact h⟩
    | 12 =>
      obtain ⟨c, i, h⟩ := u_known (C := RX12) (T := TX12) (N := 49) (n := 49) hts sk_inX12 (hts (.instantiable RX12 49) (by decide +kernel))
      exact ⟨(c, i), fun q hq => by cases hq; exact h⟩
    | k + 13 => exact ⟨(0, fun _ => 0), fun q hq => by simp [vwCl] at hq⟩
  obtain ⟨ad, had⟩ := Classical.axiomOfChoice h
  exact ⟨(fun k => (ad k).1, fun k => (ad k).2), fun k q hq => had k q hq, fun k q h => by simp at h⟩
theorem sw_prim {a : Array Value} {ty : FieldType} (h : (Cond.arrayClass ty).before a s = true) (hp : ∀ cA, s.vm.findClass ("[" ++ ty.toString) = some cA → va_RA s cA ty) : ∃ cA : ClassId, ArrOfT s cA ty ∧ va_RA s cA ty := by
  obtain ⟨cA, kA, comp, h1, h2, h3⟩ := Cond.arrayClass_spec h
  exact ⟨cA, fun n z => ⟨(fun k h => by cases h), kA, h2, comp, h3⟩, hp cA h1⟩
theorem sw_over {a : Array Value} {C : String} (h : (Cond.arrayOver (.object C)).before a s = true) : ∃ cA : ClassId, ArrOfT s cA (.object C) ∧ va_RA s cA (.object C) := by
  obtain ⟨comp, cA, kA, h1, -, h2, h3, h4⟩ := Cond.arrayOver_spec h
  exact ⟨cA, fun n z => ⟨(fun k h => by cases h), kA, h2, comp, h3⟩, kA, comp, h2, h3, h1, h4⟩
theorem sw_arrs {a : Array Value} (hts : ∀ w ∈ lw_tbl, w.before a s = true) : ∃ cA : Nat → ClassId, ∀ k : Nat, 20 ≤ k → k < 26 → ArrOfT s (cA k) (sk_ty k) ∧ va_RA s (cA k) (sk_ty k) := by
  have h : ∀ k : Nat, ∃ c : ClassId, 20 ≤ k → k < 26 → ArrOfT s c (sk_ty k) ∧ va_RA s c (sk_ty k) := by
    intro k
    by_cases hk : 20 ≤ k ∧ k < 26
    · rcases (show k = 20 ∨ k = 21 ∨ k = 22 ∨ k = 23 ∨ k = 24 ∨ k = 25 by omega) with rfl | rfl | rfl | rfl | rfl | rfl
      · obtain ⟨c, h⟩ := sw_prim (ty := .int) (hts _ (by decide +kernel)) (fun _ h => h)
        exact ⟨c, fun _ _ => h⟩
      · obtain ⟨c, h⟩ := sw_prim (ty := .boolean) (hts _ (by decide +kernel)) (fun _ h => h)
        exact ⟨c, fun _ _ => h⟩
      · obtain ⟨c, h⟩ := sw_prim (ty := .long) (hts _ (by decide +kernel)) (fun _ h => h)
        exact ⟨c, fun _ _ => h⟩
      · obtain ⟨c, h⟩ := sw_over (C := "ScrapedSkin$Page") (hts _ (by decide +kernel))
        exact ⟨c, fun _ _ => h⟩
      · obtain ⟨c, h⟩ := sw_over (C := "ScrapedSkin$Law") (hts _ (by decide +kernel))
        exact ⟨c, fun _ _ => h⟩
      · obtain ⟨c, h⟩ := sw_over (C := "ScrapedSkin$Writing") (hts _ (by decide +kernel))
        exact ⟨c, fun _ _ => h⟩
    · exact ⟨0, fun h1 h2 => (hk ⟨h1, h2⟩).elim⟩
  exact Classical.axiomOfChoice h
def sw_n : Nat → Nat
  | 0 => 8
  | _ => 4
def sw_l : Nat → List Int32
  | 0 => [2, 8, 1, 5, 1, 9, 0, 99]
  | 1 => [1, 9, 0, 9]
  | 2 => [1, 0, -1, 0]
  | 3 => [0, -1, 0, 1]
  | 4 => [0, 1, 0, -1]
  | _ => [1, 0, -1, 0]
def sw_v (k j : Nat) : Int32 := (sw_l k).getD j 0
def sw_tm (k : Nat) : Term := .static "ScrapedSkin$Rules" (sk_sn k) "[I"
abbrev sw_F : List Cond := flatC (Jvm.Cond.and given_1 narrow_1)
theorem sw_w1 : ∀ k : Nat, k < 6 → Cond.arrayOf (sw_tm k) .int ∈ sw_F ∧ Cond.eq (.length (sw_tm k)) (.int (Int32.ofNat (sw_n k))) ∈ sw_F ∧ ∀ j : Nat, j < sw_n k → Cond.eq (.elem (sw_tm k) (.int (Int32.ofNat j))) (.int (sw_v k j)) ∈ sw_F := by decide +kernel
theorem sw_w2 : ∀ k : Nat, k < 6 → Cond.not (Cond.eq (.arg 0) (sw_tm k)) ∈ sw_F := by decide +kernel
theorem sw_w3 : ∀ k : Nat, k < 6 → Cond.laysStatic "ScrapedSkin$Rules" (sk_sn k) "[I" ∈ lw_tbl := by decide +kernel
theorem sw_w4 : ∀ i j : Nat, i < 6 → j < 6 → i ≠ j → sw_n i = sw_n j → (∀ t : Nat, t < sw_n i → sw_v i t = sw_v j t) → (i = 2 ∧ j = 5) ∨ (i = 5 ∧ j = 2) := by
  intro i j hi hj hij hn ht
  have key : ((List.range 6).all fun i => (List.range 6).all fun j => i == j || sw_n i != sw_n j || !((List.range (sw_n i)).all fun t => sw_v i t == sw_v j t) || (i == 2 && j == 5) || (i == 5 && j == 2)) = true := by decide +kernel
  have k2 := List.all_eq_true.mp (List.all_eq_true.mp key i (List.mem_range.mpr hi)) j (List.mem_range.mpr hj)
  have k3 : ((List.range (sw_n i)).all fun t => sw_v i t == sw_v j t) = true := List.all_eq_true.mpr (fun t h => by simp [ht t (List.mem_range.mp h)])
  rw [k3] at k2
  simp only [Bool.or_eq_true, beq_iff_eq, bne_iff_ne, ne_eq, Bool.not_true, Bool.and_eq_true, Bool.false_eq_true, or_false] at k2
  rcases k2 with ((k2 | k2) | k2) | k2
  · exact (hij k2).elim
  · exact (k2 hn).elim
  · exact Or.inl k2
  · exact Or.inr k2
/-- the static arrays -/
theorem sw_stats (hs : ∀ w ∈ sw_F, w.before #[Value.ref b] s = true) : ∃ ad : Nat → Nat, (∀ k : Nat, k < 6 → (sw_tm k).eval #[Value.ref b] s none [] s = some (.ref (ad k)) ∧ b ≠ ad k ∧ ∃ cell : Cell, s.heap[ad k]? = some cell ∧ s.isArrayOf cell .int ∧ cell.vm ≠ .unknown ∧ cell.slots.size = sw_n k ∧ ∀ j : Nat, j < sw_n k → cell.slots[j]? = some (.int (sw_v k j))) ∧ ∀ i j : Nat, i < 6 → j < 6 → i ≠ j → ad i ≠ ad j := by
  have h : ∀ k : Nat, ∃ t : Nat, k < 6 → (sw_tm k).eval #[Value.ref b] s none [] s = some (.ref t) ∧ b ≠ t ∧ ∃ cell : Cell, s.heap[t]? = some cell ∧ s.isArrayOf cell .int ∧ cell.vm ≠ .unknown ∧ cell.slots.size = sw_n k ∧ ∀ j : Nat, j < sw_n k → cell.slots[j]? = some (.int (sw_v k j)) := by
    intro k
    by_cases hk : k < 6
    · obtain ⟨w1, w2, w3⟩ := sw_w1 k hk
      obtain ⟨t, cell, h1, h2, h3, h4, h5, h6⟩ := sw_arr (f := sw_v k) (hs _ w1) (va_eqt (hs _ w2)) (by unfold sw_n; split <;> decide) (fun j hj => va_eqt (hs _ (w3 j hj)))
      exact ⟨t, fun _ => ⟨h1, va_neR (hs _ (sw_w2 k hk)) rfl h1, cell, h2, h3, h4, h5, h6⟩⟩
    · exact ⟨0, fun h => (hk h).elim⟩
  obtain ⟨ad, had⟩ := Classical.axiomOfChoice h
  have h25 : ad 2 ≠ ad 5 := va_neR (hs (Cond.not (Cond.eq (sw_tm 2) (sw_tm 5))) (by decide +kernel)) (had 2 (by decide)).1 (had 5 (by decide)).1
  refine ⟨ad, had, fun i j hi hj hij e => ?_⟩
  obtain ⟨-, -, c1, a1, -, -, a4, a5⟩ := had i hi
  obtain ⟨-, -, c2, b1, -, -, b4, b5⟩ := had j hj
  rw [e] at a1
  cases a1.symm.trans b1
  have hn := a4.symm.trans b4
  rcases sw_w4 i j hi hj hij hn (fun t ht => by
    have := (a5 t ht).symm.trans (b5 t (by rw [← hn]; exact ht))
    exact Value.int.inj (Option.some.inj this)) with ⟨rfl, rfl⟩ | ⟨rfl, rfl⟩
  · exact h25 e
  · exact h25 e.symm
end SW
