/-! ===== the class: its history ===== -/
theorem sk_upA_self (f : Int → Option Nat) (i : Int) (x : Option Nat) : sk_upA f i x i = x := by unfold sk_upA; simp
theorem sk_upA_ne (f : Int → Option Nat) {i j : Int} (x : Option Nat) (h : j ≠ i) : sk_upA f i x j = f j := by unfold sk_upA; simp [h]
abbrev hC : Type := (Int → Int) × (Int → Int) × Int × Int × Int × Int
def pgc (M : sk_M) (b : Nat) (c : hC) : Prop := pg_at M b (b + 1) (b + 2) c.1 c.2.1 c.2.2.1 c.2.2.2.1 c.2.2.2.2.1 c.2.2.2.2.2
def hg (M : sk_M) (A : Nat) (pgs : Int → Option Nat) (cnt : Int → hC) (next kept has : Int) : Prop := hi_at M (A + 30) (A + 31) (A + 32) (A + 35) pgs next kept has ∧ (0 ≤ next ∧ next < 40 ∧ 0 ≤ kept ∧ kept ≤ 40 ∧ (has = 0 ∨ has = 1)) ∧ (∀ j b, 0 ≤ j → j < 40 → pgs j = some b → A + 85 ≤ b ∧ b + 2 < M.1 ∧ pgc M b (cnt j)) ∧ (∀ i j b, 0 ≤ i → i < 40 → 0 ≤ j → j < 40 → pgs i = some b → pgs j = some b → i = j) ∧ ∀ t, 0 ≤ t → t < kept → ∃ b, pgs ((next + 39 - t) % 40) = some b
/-- kept: what else may have changed -/
def kf (M M' : sk_M) (A : Nat) (pgs pgs' : Int → Option Nat) (n : Nat) (F : Nat → Prop) : Prop := (M.1 ≤ M'.1 ∧ M'.1 ≤ M.1 + 3 * n) ∧ (∀ q, q < M.1 → q ≠ A + 30 → q ≠ A + 31 → (∀ j b, 0 ≤ j → j < 40 → pgs j = some b → q < b ∨ b + 2 < q) → ¬ F q → M'.2 q = M.2 q) ∧ ∀ j b, 0 ≤ j → j < 40 → pgs' j = some b → pgs j = some b ∨ M.1 ≤ b
theorem kf_trans {M M1 M2 : sk_M} {A : Nat} {pgs pgs1 pgs2 : Int → Option Nat} {n m : Nat} {F : Nat → Prop} (h : kf M M1 A pgs pgs1 n F) (h' : kf M1 M2 A pgs1 pgs2 m F) : kf M M2 A pgs pgs2 (n + m) F := by
  obtain ⟨⟨a1, a2⟩, b, c⟩ := h
  obtain ⟨⟨d1, d2⟩, e, f⟩ := h'
  refine ⟨⟨by omega, by omega⟩, fun q q0 q1 q2 q3 q4 => ?_, fun j p j0 j1 jp => ?_⟩
  · rw [e q (by omega) q1 q2 (fun j p j0 j1 jp => ?_) q4, b q q0 q1 q2 q3 q4]
    rcases c j p j0 j1 jp with h | h
    · exact q3 j p j0 j1 h
    · omega
  · rcases f j p j0 j1 jp with h | h
    · exact c j p j0 j1 h
    · exact Or.inr (by omega)
theorem kf_fr {M M1 M2 : sk_M} {A : Nat} {pgs pgs1 : Int → Option Nat} {n : Nat} {F F' : Nat → Prop} (h : kf M M1 A pgs pgs1 n F) (h' : sk_fr1 M1 M2 F') (hF : ∀ q, F' q → q < M.1 → F q) : kf M M2 A pgs pgs1 n F := by
  obtain ⟨a, b, c⟩ := h
  refine ⟨by rw [h'.1]; exact a, fun q q0 q1 q2 q3 q4 => ?_, c⟩
  rw [h'.2 q (fun e => q4 (hF q e q0)), b q q0 q1 q2 q3 q4]
theorem kf_le {M M1 : sk_M} {A : Nat} {pgs pgs1 : Int → Option Nat} {n : Nat} {F F' : Nat → Prop} (h : kf M M1 A pgs pgs1 n F) (hF : ∀ q, F q → F' q) : kf M M1 A pgs pgs1 n F' := ⟨h.1, fun q q0 q1 q2 q3 q4 => h.2.1 q q0 q1 q2 q3 (fun e => q4 (hF q e)), h.2.2⟩
/-- what the slot now holds -/
def kc (cnt cnt' : Int → hC) (next : Int) (ly hs : Int → Int) (n : Int × Int × Int × Int) : Prop := pg_eq ly hs (cnt' next).1 (cnt' next).2.1 ∧ (cnt' next).2.2 = n ∧ ∀ j, j ≠ next → cnt' j = cnt j
theorem pg_dis {M : sk_M} {a b : Nat} {c c' : hC} (h : pgc M a c) (h' : pgc M b c') (hne : a ≠ b) : a + 2 < b ∨ b + 2 < a := by
  have k1 : (M.2 a).1 = 5 := by rw [h.1]
  have k2 : (M.2 (a + 1)).1 = 20 := by rw [h.2.1]
  have k3 : (M.2 (a + 2)).1 = 20 := by rw [h.2.2]
  have k4 : (M.2 b).1 = 5 := by rw [h'.1]
  have k5 : (M.2 (b + 1)).1 = 20 := by rw [h'.2.1]
  have k6 : (M.2 (b + 2)).1 = 20 := by rw [h'.2.2]
  have e1 : b ≠ a + 1 := by rintro rfl; omega
  have e2 : b ≠ a + 2 := by rintro rfl; omega
  have e3 : a ≠ b + 1 := by rintro rfl; omega
  have e4 : a ≠ b + 2 := by rintro rfl; omega
  omega
theorem pgc_mv {M M' : sk_M} {b : Nat} {c : hC} (h : pgc M b c) (he : ∀ q, b ≤ q → q ≤ b + 2 → M'.2 q = M.2 q) : pgc M' b c := ⟨(he _ (by omega) (by omega)).trans h.1, (he _ (by omega) (by omega)).trans h.2.1, (he _ (by omega) (by omega)).trans h.2.2⟩
theorem hih_mv {M M' : sk_M} {A : Nat} {pgs : Int → Option Nat} {next kept has : Int} (h : hi_at M (A + 30) (A + 31) (A + 32) (A + 35) pgs next kept has) (e0 : M'.2 (A + 30) = M.2 (A + 30)) (e1 : M'.2 (A + 31) = M.2 (A + 31)) : hi_at M' (A + 30) (A + 31) (A + 32) (A + 35) pgs next kept has := ⟨e0.trans h.1, e1.trans h.2⟩
theorem hg_mv {M M' : sk_M} {A : Nat} {pgs : Int → Option Nat} {cnt : Int → hC} {next kept has : Int} (h : hg M A pgs cnt next kept has) (h1 : M.1 ≤ M'.1) (e0 : M'.2 (A + 30) = M.2 (A + 30)) (e1 : M'.2 (A + 31) = M.2 (A + 31)) (he : ∀ j b q, 0 ≤ j → j < 40 → pgs j = some b → b ≤ q → q ≤ b + 2 → M'.2 q = M.2 q) : hg M' A pgs cnt next kept has := by
  obtain ⟨a, b, c, d, e⟩ := h
  refine ⟨hih_mv a e0 e1, b, fun j p j0 j1 jp => ?_, d, e⟩
  obtain ⟨c1, c2, c3⟩ := c j p j0 j1 jp
  exact ⟨c1, by omega, pgc_mv c3 (fun q q0 q1 => he j p q j0 j1 jp q0 q1)⟩
section XKEEP
variable {g : sk_G} {d ck sk : Nat} {M : sk_M} {Q : sk_P} {A : Nat} {pgs : Int → Option Nat} {cnt : Int → hC} {next kept has : Int} {ly hs : Int → Int} {co ye lo ll : Int}
theorem x_keep (hd : 8 ≤ d) (hc : 3 ≤ ck) (hc2 : 286 ≤ sk) (hA : A + 85 ≤ M.1) (h : hg M A pgs cnt next kept has) (hP : pg_at M (A + 22) (A + 23) (A + 24) ly hs co ye lo ll) (hQ : ∀ M' pgs' cnt', kf M M' A pgs pgs' 1 (fun _ => False) → kc cnt cnt' next ly hs (co, ye, lo, ll) → hg M' A pgs' cnt' ((next + 1) % 40) (sk_min 40 (kept + 1)) has → Q none M') : sk_call g d ck sk xX0_keep [.inr (.inr (some (A + 30))), .inr (.inr (some (A + 22)))] M Q := by
  obtain ⟨ha, ⟨n0, n1, k0, k1, hb⟩, hc', hdi, hk⟩ := id h
  have mn : 0 ≤ sk_min 40 (kept + 1) ∧ sk_min 40 (kept + 1) ≤ 40 ∧ sk_min 40 (kept + 1) ≤ kept + 1 := by unfold sk_min; split <;> omega
  cases e : pgs next with
  | none =>
    refine c_keepNew hd hc hc2 ha n0 n1 k0 k1 e hP (by omega) (by omega) (by omega) (by omega) (by omega) (fun M' ly3 hs3 m1 hfr e1 e2 hB hh => ?_)
    refine hQ M' (sk_upA pgs next (some M.1)) (fun j => if j = next then (ly3, hs3, co, ye, lo, ll) else cnt j) ⟨⟨by omega, by omega⟩, fun q q0 q1 q2 _ _ => hfr q q0 q1 q2, fun j b j0 j1 jb => ?_⟩ ⟨?_, ?_, fun j hj => if_neg hj⟩ ?_
    · by_cases ej : j = next
      · subst ej
        rw [sk_upA_self] at jb
        simp only [Option.some.injEq] at jb
        omega
      · rw [sk_upA_ne _ _ ej] at jb
        exact Or.inl jb
    · simp only [if_true]; exact ⟨e1, e2⟩
    · simp only [if_true]
    · refine ⟨hh, ⟨by omega, by omega, mn.1, mn.2.1, hb⟩, fun j b j0 j1 jb => ?_, fun i j b i0 i1 j0 j1 ib jb => ?_, fun t t0 t1 => ?_⟩
      · by_cases ej : j = next
        · subst ej
          rw [sk_upA_self] at jb
          simp only [Option.some.injEq] at jb
          subst jb
          simp only [if_true]
          exact ⟨hA, by omega, hB⟩
        · rw [sk_upA_ne _ _ ej] at jb
          obtain ⟨c1, c2, c3⟩ := hc' j b j0 j1 jb
          simp only [if_neg ej]
          exact ⟨c1, by omega, pgc_mv c3 (fun q q0 q1 => hfr q (by omega) (by omega) (by omega))⟩
      · by_cases ei : i = next
        · by_cases ej : j = next
          · omega
          · subst ei
            rw [sk_upA_self] at ib
            rw [sk_upA_ne _ _ ej] at jb
            simp only [Option.some.injEq] at ib
            have := (hc' j b j0 j1 jb).2.1
            omega
        · rw [sk_upA_ne _ _ ei] at ib
          by_cases ej : j = next
          · subst ej
            rw [sk_upA_self] at jb
            simp only [Option.some.injEq] at jb
            have := (hc' i b i0 i1 ib).2.1
            omega
          · rw [sk_upA_ne _ _ ej] at jb
            exact hdi i j b i0 i1 j0 j1 ib jb
      · by_cases et : t = 0
        · subst et
          rw [show ((next + 1) % 40 + 39 - 0) % 40 = next by omega, sk_upA_self]
          exact ⟨_, rfl⟩
        · by_cases ej : ((next + 1) % 40 + 39 - t) % 40 = next
          · rw [ej, sk_upA_self]; exact ⟨_, rfl⟩
          · rw [sk_upA_ne _ _ ej]
            obtain ⟨b, hb'⟩ := hk (t - 1) (by omega) (by omega)
            rw [show (next + 39 - (t - 1)) % 40 = ((next + 1) % 40 + 39 - t) % 40 by omega] at hb'
            exact ⟨b, hb'⟩
  | some b =>
    obtain ⟨c1, c2, c3⟩ := hc' next b n0 n1 e
    refine c_keepOld hd ha n0 n1 k0 k1 e hP c3 (by omega) (by omega) (by omega) (fun M' ly3 hs3 hfr e1 e2 hB hh => ?_)
    refine hQ M' pgs (fun j => if j = next then (ly3, hs3, co, ye, lo, ll) else cnt j) ⟨by have := hfr.1; omega, fun q q0 q1 q2 q3 _ => hfr.2 q (by have := q3 next b n0 n1 e; omega), fun j b j0 j1 jb => Or.inl jb⟩ ⟨?_, ?_, fun j hj => if_neg hj⟩ ?_
    · simp only [if_true]; exact ⟨e1, e2⟩
    · simp only [if_true]
    · refine ⟨hh, ⟨by omega, by omega, mn.1, mn.2.1, hb⟩, fun j b' j0 j1 jb => ?_, hdi, fun t t0 t1 => ?_⟩
      · have m1 := hfr.1
        by_cases ej : j = next
        · subst ej
          rw [e] at jb
          simp only [Option.some.injEq] at jb
          subst jb
          simp only [if_true]
          exact ⟨c1, by omega, hB⟩
        · obtain ⟨d1, d2, d3⟩ := hc' j b' j0 j1 jb
          have bn : b' ≠ b := fun q => ej (hdi j next b j0 j1 n0 n1 (by rw [jb, q]) e)
          have dd := pg_dis d3 c3 bn
          simp only [if_neg ej]
          exact ⟨d1, by omega, pgc_mv d3 (fun q q0 q1 => hfr.2 q (by omega))⟩
      · by_cases et : t = 0
        · subst et
          rw [show ((next + 1) % 40 + 39 - 0) % 40 = next by omega]
          exact ⟨b, e⟩
        · obtain ⟨b', hb'⟩ := hk (t - 1) (by omega) (by omega)
          rw [show (next + 39 - (t - 1)) % 40 = ((next + 1) % 40 + 39 - t) % 40 by omega] at hb'
          exact ⟨b', hb'⟩
end XKEEP
