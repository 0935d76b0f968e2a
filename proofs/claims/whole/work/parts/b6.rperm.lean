/-! ===== rows of all numbers: on both sides in the same order ===== -/
/-- a row as a function -/
def lf (l : List Nat) : Int → Int := fun i => ((l.getD i.toNat 0 : Nat) : Int)
def tl (r : Int → Int) : Nat → Nat → List Nat
  | _, 0 => []
  | i, n + 1 => (r i).toNat :: tl r (i + 1) n
/-- the class's rows, one behind the other -/
def nxs (n : Nat) : Nat → List Nat → List (List Nat)
  | 0, _ => []
  | k + 1, l => if rk_l (lf l) (n - 1) < 0 then [] else tl (rk_next (lf l) n) 0 n :: nxs n k (tl (rk_next (lf l) n) 0 n)
/-- the reference's rows -/
def cps (n : Nat) : Nat → List Nat → List (List Nat)
  | 0, _ => [[]]
  | m + 1, pre => (List.range n).flatMap (fun h => if h ∈ pre then [] else (cps n m (h :: pre)).map (fun p => h :: p))
theorem en1 : cps 1 1 [] = tl (fun i => i) 0 1 :: nxs 1 719 (tl (fun i => i) 0 1) := by decide +kernel
theorem en2 : cps 2 2 [] = tl (fun i => i) 0 2 :: nxs 2 719 (tl (fun i => i) 0 2) := by decide +kernel
theorem en3 : cps 3 3 [] = tl (fun i => i) 0 3 :: nxs 3 719 (tl (fun i => i) 0 3) := by decide +kernel
theorem en4 : cps 4 4 [] = tl (fun i => i) 0 4 :: nxs 4 719 (tl (fun i => i) 0 4) := by decide +kernel
theorem en5 : cps 5 5 [] = tl (fun i => i) 0 5 :: nxs 5 719 (tl (fun i => i) 0 5) := by decide +kernel
theorem en6 : cps 6 6 [] = tl (fun i => i) 0 6 :: nxs 6 719 (tl (fun i => i) 0 6) := by decide +kernel
theorem en (n : Nat) (n1 : 1 ≤ n) (n6 : n ≤ 6) : cps n n [] = tl (fun i => i) 0 n :: nxs n 719 (tl (fun i => i) 0 n) := by
  have : n = 1 ∨ n = 2 ∨ n = 3 ∨ n = 4 ∨ n = 5 ∨ n = 6 := by omega
  rcases this with rfl | rfl | rfl | rfl | rfl | rfl
  · exact en1
  · exact en2
  · exact en3
  · exact en4
  · exact en5
  · exact en6
theorem cps_len (n : Nat) : ∀ (m : Nat) (pre : List Nat), ∀ p ∈ cps n m pre, p.length = m ∧ ∀ x ∈ p, x < n
  | 0, pre, p, h => by simp [cps] at h; subst h; simp
  | m + 1, pre, p, h => by
    simp only [cps, List.mem_flatMap, List.mem_range] at h
    obtain ⟨a, ha, hp⟩ := h
    split at hp
    · simp at hp
    · rw [List.mem_map] at hp
      obtain ⟨q, hq, rfl⟩ := hp
      obtain ⟨h1, h2⟩ := cps_len n m (a :: pre) q hq
      refine ⟨by simp [h1], fun x hx => ?_⟩
      rcases List.mem_cons.mp hx with rfl | hx
      · exact ha
      · exact h2 x hx
