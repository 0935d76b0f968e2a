/-! ===== fields, cells, seekers ===== -/
theorem sk_F_at (l : List sk_V) (j : Nat) : sk_F l j = (sk_nth l j).getD (.inl 0) := rfl
theorem sk_Fu0 (a v : sk_V) (r : List sk_V) : va_up (sk_F (a :: r)) 0 v = sk_F (v :: r) := by rw [sk_F_up _ _ _ (by simp)]; rfl
theorem sk_Fu1 (x0 a v : sk_V) (r : List sk_V) : va_up (sk_F (x0 :: a :: r)) 1 v = sk_F (x0 :: v :: r) := by rw [sk_F_up _ _ _ (by simp)]; rfl
theorem sk_Fu2 (x0 x1 a v : sk_V) (r : List sk_V) : va_up (sk_F (x0 :: x1 :: a :: r)) 2 v = sk_F (x0 :: x1 :: v :: r) := by rw [sk_F_up _ _ _ (by simp)]; rfl
theorem sk_Fu3 (x0 x1 x2 a v : sk_V) (r : List sk_V) : va_up (sk_F (x0 :: x1 :: x2 :: a :: r)) 3 v = sk_F (x0 :: x1 :: x2 :: v :: r) := by rw [sk_F_up _ _ _ (by simp)]; rfl
theorem sk_Fu4 (x0 x1 x2 x3 a v : sk_V) (r : List sk_V) : va_up (sk_F (x0 :: x1 :: x2 :: x3 :: a :: r)) 4 v = sk_F (x0 :: x1 :: x2 :: x3 :: v :: r) := by rw [sk_F_up _ _ _ (by simp)]; rfl
theorem sk_Fu5 (x0 x1 x2 x3 x4 a v : sk_V) (r : List sk_V) : va_up (sk_F (x0 :: x1 :: x2 :: x3 :: x4 :: a :: r)) 5 v = sk_F (x0 :: x1 :: x2 :: x3 :: x4 :: v :: r) := by rw [sk_F_up _ _ _ (by simp)]; rfl
theorem sk_Fu6 (x0 x1 x2 x3 x4 x5 a v : sk_V) (r : List sk_V) : va_up (sk_F (x0 :: x1 :: x2 :: x3 :: x4 :: x5 :: a :: r)) 6 v = sk_F (x0 :: x1 :: x2 :: x3 :: x4 :: x5 :: v :: r) := by rw [sk_F_up _ _ _ (by simp)]; rfl
theorem sk_Fu7 (x0 x1 x2 x3 x4 x5 x6 a v : sk_V) (r : List sk_V) : va_up (sk_F (x0 :: x1 :: x2 :: x3 :: x4 :: x5 :: x6 :: a :: r)) 7 v = sk_F (x0 :: x1 :: x2 :: x3 :: x4 :: x5 :: x6 :: v :: r) := by rw [sk_F_up _ _ _ (by simp)]; rfl
theorem sk_Fu8 (x0 x1 x2 x3 x4 x5 x6 x7 a v : sk_V) (r : List sk_V) : va_up (sk_F (x0 :: x1 :: x2 :: x3 :: x4 :: x5 :: x6 :: x7 :: a :: r)) 8 v = sk_F (x0 :: x1 :: x2 :: x3 :: x4 :: x5 :: x6 :: x7 :: v :: r) := by rw [sk_F_up _ _ _ (by simp)]; rfl
theorem sk_Fu9 (x0 x1 x2 x3 x4 x5 x6 x7 x8 a v : sk_V) (r : List sk_V) : va_up (sk_F (x0 :: x1 :: x2 :: x3 :: x4 :: x5 :: x6 :: x7 :: x8 :: a :: r)) 9 v = sk_F (x0 :: x1 :: x2 :: x3 :: x4 :: x5 :: x6 :: x7 :: x8 :: v :: r) := by rw [sk_F_up _ _ _ (by simp)]; rfl
theorem sk_Fu10 (x0 x1 x2 x3 x4 x5 x6 x7 x8 x9 a v : sk_V) (r : List sk_V) : va_up (sk_F (x0 :: x1 :: x2 :: x3 :: x4 :: x5 :: x6 :: x7 :: x8 :: x9 :: a :: r)) 10 v = sk_F (x0 :: x1 :: x2 :: x3 :: x4 :: x5 :: x6 :: x7 :: x8 :: x9 :: v :: r) := by rw [sk_F_up _ _ _ (by simp)]; rfl
theorem sk_Fu11 (x0 x1 x2 x3 x4 x5 x6 x7 x8 x9 x10 a v : sk_V) (r : List sk_V) : va_up (sk_F (x0 :: x1 :: x2 :: x3 :: x4 :: x5 :: x6 :: x7 :: x8 :: x9 :: x10 :: a :: r)) 11 v = sk_F (x0 :: x1 :: x2 :: x3 :: x4 :: x5 :: x6 :: x7 :: x8 :: x9 :: x10 :: v :: r) := by rw [sk_F_up _ _ _ (by simp)]; rfl
theorem sk_Fu12 (x0 x1 x2 x3 x4 x5 x6 x7 x8 x9 x10 x11 a v : sk_V) (r : List sk_V) : va_up (sk_F (x0 :: x1 :: x2 :: x3 :: x4 :: x5 :: x6 :: x7 :: x8 :: x9 :: x10 :: x11 :: a :: r)) 12 v = sk_F (x0 :: x1 :: x2 :: x3 :: x4 :: x5 :: x6 :: x7 :: x8 :: x9 :: x10 :: x11 :: v :: r) := by rw [sk_F_up _ _ _ (by simp)]; rfl
theorem sk_Fu13 (x0 x1 x2 x3 x4 x5 x6 x7 x8 x9 x10 x11 x12 a v : sk_V) (r : List sk_V) : va_up (sk_F (x0 :: x1 :: x2 :: x3 :: x4 :: x5 :: x6 :: x7 :: x8 :: x9 :: x10 :: x11 :: x12 :: a :: r)) 13 v = sk_F (x0 :: x1 :: x2 :: x3 :: x4 :: x5 :: x6 :: x7 :: x8 :: x9 :: x10 :: x11 :: x12 :: v :: r) := by rw [sk_F_up _ _ _ (by simp)]; rfl
theorem sk_Fu14 (x0 x1 x2 x3 x4 x5 x6 x7 x8 x9 x10 x11 x12 x13 a v : sk_V) (r : List sk_V) : va_up (sk_F (x0 :: x1 :: x2 :: x3 :: x4 :: x5 :: x6 :: x7 :: x8 :: x9 :: x10 :: x11 :: x12 :: x13 :: a :: r)) 14 v = sk_F (x0 :: x1 :: x2 :: x3 :: x4 :: x5 :: x6 :: x7 :: x8 :: x9 :: x10 :: x11 :: x12 :: x13 :: v :: r) := by rw [sk_F_up _ _ _ (by simp)]; rfl
theorem sk_Fu15 (x0 x1 x2 x3 x4 x5 x6 x7 x8 x9 x10 x11 x12 x13 x14 a v : sk_V) (r : List sk_V) : va_up (sk_F (x0 :: x1 :: x2 :: x3 :: x4 :: x5 :: x6 :: x7 :: x8 :: x9 :: x10 :: x11 :: x12 :: x13 :: x14 :: a :: r)) 15 v = sk_F (x0 :: x1 :: x2 :: x3 :: x4 :: x5 :: x6 :: x7 :: x8 :: x9 :: x10 :: x11 :: x12 :: x13 :: x14 :: v :: r) := by rw [sk_F_up _ _ _ (by simp)]; rfl
theorem sk_Fu16 (x0 x1 x2 x3 x4 x5 x6 x7 x8 x9 x10 x11 x12 x13 x14 x15 a v : sk_V) (r : List sk_V) : va_up (sk_F (x0 :: x1 :: x2 :: x3 :: x4 :: x5 :: x6 :: x7 :: x8 :: x9 :: x10 :: x11 :: x12 :: x13 :: x14 :: x15 :: a :: r)) 16 v = sk_F (x0 :: x1 :: x2 :: x3 :: x4 :: x5 :: x6 :: x7 :: x8 :: x9 :: x10 :: x11 :: x12 :: x13 :: x14 :: x15 :: v :: r) := by rw [sk_F_up _ _ _ (by simp)]; rfl
theorem sk_Fu17 (x0 x1 x2 x3 x4 x5 x6 x7 x8 x9 x10 x11 x12 x13 x14 x15 x16 a v : sk_V) (r : List sk_V) : va_up (sk_F (x0 :: x1 :: x2 :: x3 :: x4 :: x5 :: x6 :: x7 :: x8 :: x9 :: x10 :: x11 :: x12 :: x13 :: x14 :: x15 :: x16 :: a :: r)) 17 v = sk_F (x0 :: x1 :: x2 :: x3 :: x4 :: x5 :: x6 :: x7 :: x8 :: x9 :: x10 :: x11 :: x12 :: x13 :: x14 :: x15 :: x16 :: v :: r) := by rw [sk_F_up _ _ _ (by simp)]; rfl
theorem sk_Fu18 (x0 x1 x2 x3 x4 x5 x6 x7 x8 x9 x10 x11 x12 x13 x14 x15 x16 x17 a v : sk_V) (r : List sk_V) : va_up (sk_F (x0 :: x1 :: x2 :: x3 :: x4 :: x5 :: x6 :: x7 :: x8 :: x9 :: x10 :: x11 :: x12 :: x13 :: x14 :: x15 :: x16 :: x17 :: a :: r)) 18 v = sk_F (x0 :: x1 :: x2 :: x3 :: x4 :: x5 :: x6 :: x7 :: x8 :: x9 :: x10 :: x11 :: x12 :: x13 :: x14 :: x15 :: x16 :: x17 :: v :: r) := by rw [sk_F_up _ _ _ (by simp)]; rfl
theorem sk_Fu19 (x0 x1 x2 x3 x4 x5 x6 x7 x8 x9 x10 x11 x12 x13 x14 x15 x16 x17 x18 a v : sk_V) (r : List sk_V) : va_up (sk_F (x0 :: x1 :: x2 :: x3 :: x4 :: x5 :: x6 :: x7 :: x8 :: x9 :: x10 :: x11 :: x12 :: x13 :: x14 :: x15 :: x16 :: x17 :: x18 :: a :: r)) 19 v = sk_F (x0 :: x1 :: x2 :: x3 :: x4 :: x5 :: x6 :: x7 :: x8 :: x9 :: x10 :: x11 :: x12 :: x13 :: x14 :: x15 :: x16 :: x17 :: x18 :: v :: r) := by rw [sk_F_up _ _ _ (by simp)]; rfl
theorem sk_Fu20 (x0 x1 x2 x3 x4 x5 x6 x7 x8 x9 x10 x11 x12 x13 x14 x15 x16 x17 x18 x19 a v : sk_V) (r : List sk_V) : va_up (sk_F (x0 :: x1 :: x2 :: x3 :: x4 :: x5 :: x6 :: x7 :: x8 :: x9 :: x10 :: x11 :: x12 :: x13 :: x14 :: x15 :: x16 :: x17 :: x18 :: x19 :: a :: r)) 20 v = sk_F (x0 :: x1 :: x2 :: x3 :: x4 :: x5 :: x6 :: x7 :: x8 :: x9 :: x10 :: x11 :: x12 :: x13 :: x14 :: x15 :: x16 :: x17 :: x18 :: x19 :: v :: r) := by rw [sk_F_up _ _ _ (by simp)]; rfl
theorem sk_Fu21 (x0 x1 x2 x3 x4 x5 x6 x7 x8 x9 x10 x11 x12 x13 x14 x15 x16 x17 x18 x19 x20 a v : sk_V) (r : List sk_V) : va_up (sk_F (x0 :: x1 :: x2 :: x3 :: x4 :: x5 :: x6 :: x7 :: x8 :: x9 :: x10 :: x11 :: x12 :: x13 :: x14 :: x15 :: x16 :: x17 :: x18 :: x19 :: x20 :: a :: r)) 21 v = sk_F (x0 :: x1 :: x2 :: x3 :: x4 :: x5 :: x6 :: x7 :: x8 :: x9 :: x10 :: x11 :: x12 :: x13 :: x14 :: x15 :: x16 :: x17 :: x18 :: x19 :: x20 :: v :: r) := by rw [sk_F_up _ _ _ (by simp)]; rfl
theorem sk_Fu22 (x0 x1 x2 x3 x4 x5 x6 x7 x8 x9 x10 x11 x12 x13 x14 x15 x16 x17 x18 x19 x20 x21 a v : sk_V) (r : List sk_V) : va_up (sk_F (x0 :: x1 :: x2 :: x3 :: x4 :: x5 :: x6 :: x7 :: x8 :: x9 :: x10 :: x11 :: x12 :: x13 :: x14 :: x15 :: x16 :: x17 :: x18 :: x19 :: x20 :: x21 :: a :: r)) 22 v = sk_F (x0 :: x1 :: x2 :: x3 :: x4 :: x5 :: x6 :: x7 :: x8 :: x9 :: x10 :: x11 :: x12 :: x13 :: x14 :: x15 :: x16 :: x17 :: x18 :: x19 :: x20 :: x21 :: v :: r) := by rw [sk_F_up _ _ _ (by simp)]; rfl
theorem sk_Fu23 (x0 x1 x2 x3 x4 x5 x6 x7 x8 x9 x10 x11 x12 x13 x14 x15 x16 x17 x18 x19 x20 x21 x22 a v : sk_V) (r : List sk_V) : va_up (sk_F (x0 :: x1 :: x2 :: x3 :: x4 :: x5 :: x6 :: x7 :: x8 :: x9 :: x10 :: x11 :: x12 :: x13 :: x14 :: x15 :: x16 :: x17 :: x18 :: x19 :: x20 :: x21 :: x22 :: a :: r)) 23 v = sk_F (x0 :: x1 :: x2 :: x3 :: x4 :: x5 :: x6 :: x7 :: x8 :: x9 :: x10 :: x11 :: x12 :: x13 :: x14 :: x15 :: x16 :: x17 :: x18 :: x19 :: x20 :: x21 :: x22 :: v :: r) := by rw [sk_F_up _ _ _ (by simp)]; rfl
theorem sk_tl_n (r : List sk_V) : sk_tl none r = r := rfl
theorem sk_tl_s (v : sk_V) (r : List sk_V) : sk_tl (some v) r = v :: r := rfl
theorem va_up_up {α : Type} (f : Nat → α) (k : Nat) (v u : α) : va_up (va_up f k v) k u = va_up f k u := by
  funext j
  unfold va_up
  split <;> rfl
theorem va_up_same {α : Type} {f : Nat → α} {k : Nat} {v : α} (h : f k = v) : va_up f k v = f := by
  funext j
  unfold va_up
  split
  · next e => rw [e, h]
  · rfl
theorem va_up_com {α : Type} (f : Nat → α) {k j : Nat} (v u : α) (h : k ≠ j) : va_up (va_up f k v) j u = va_up (va_up f j u) k v := by
  funext i
  unfold va_up
  by_cases h1 : i = j
  · subst h1; simp [Ne.symm h]
  · simp [h1]
theorem sk_up_self (f : Int → Int) (x v : Int) : sk_up f x v x = v := by simp [sk_up]
theorem sk_up_ne (f : Int → Int) {x y : Int} (v : Int) (h : y ≠ x) : sk_up f x v y = f y := by simp [sk_up, h]
/-- the first place that is so: its value -/
def sk_ff {α : Type} (p : Int → Bool) (v : Int → α) (e : α) : Int → Nat → α
  | _, 0 => e
  | i, n + 1 => if p i then v i else sk_ff p v e (i + 1) n
theorem sk_seek {α : Type} {P : Int → Prop} {R : α → Prop} (p : Int → Bool) (v : Int → α) (e : α) (lo hi : Int) (stop : ∀ i, lo ≤ i → i < hi → p i = true → R (v i) → P i) (go : ∀ i, lo ≤ i → i < hi → p i = false → P (i + 1) → P i) (fin : R e → P hi) : ∀ (n : Nat) (i : Int), lo ≤ i → i + n = hi → R (sk_ff p v e i n) → P i
  | 0, i, _, h, k => by
    have e : i = hi := by omega
    subst e
    exact fin k
  | n + 1, i, h0, h, k => by
    simp only [sk_ff] at k
    by_cases hp : p i = true
    · rw [if_pos hp] at k
      exact stop i h0 (by omega) hp k
    · have hp2 : p i = false := by simpa using hp
      rw [if_neg hp] at k
      exact go i h0 (by omega) hp2 (sk_seek p v e lo hi stop go fin n (i + 1) (by omega) (by omega) k)
theorem sk_ff_congr {α : Type} {p p' : Int → Bool} {v v' : Int → α} {e : α} : ∀ (n : Nat) (i : Int), (∀ j, i ≤ j → j < i + n → p j = p' j ∧ v j = v' j) → sk_ff p v e i n = sk_ff p' v' e i n
  | 0, _, _ => rfl
  | n + 1, i, h => by
    simp only [sk_ff]
    rw [(h i (by omega) (by omega)).1, (h i (by omega) (by omega)).2, sk_ff_congr n (i + 1) (fun j h1 h2 => h j (by omega) (by omega))]
theorem sk_fd_congr {α : Type} {f f' : Int → α → α} : ∀ (n : Nat) (i : Int) (s : α), (∀ j s, i ≤ j → j < i + n → f j s = f' j s) → sk_fd f i n s = sk_fd f' i n s
  | 0, _, _, _ => rfl
  | n + 1, i, s, h => by
    simp only [sk_fd]
    rw [h i s (by omega) (by omega), sk_fd_congr n (i + 1) _ (fun j s h1 h2 => h j s (by omega) (by omega))]
/-- only these cells differ -/
def sk_fr1 (M M' : sk_M) (F : Nat → Prop) : Prop := M'.1 = M.1 ∧ ∀ q, ¬ F q → M'.2 q = M.2 q
theorem sk_fr1.refl (M : sk_M) (F : Nat → Prop) : sk_fr1 M M F := ⟨rfl, fun _ _ => rfl⟩
theorem sk_fr1.trans {M M' M'' : sk_M} {F : Nat → Prop} (h : sk_fr1 M M' F) (h' : sk_fr1 M' M'' F) : sk_fr1 M M'' F := ⟨h'.1.trans h.1, fun q hq => (h'.2 q hq).trans (h.2 q hq)⟩
theorem sk_fr1.mono {M M' : sk_M} {F F' : Nat → Prop} (h : sk_fr1 M M' F) (hF : ∀ q, F q → F' q) : sk_fr1 M M' F' := ⟨h.1, fun q hq => h.2 q (fun h3 => hq (hF q h3))⟩
theorem sk_fr1.put {M M' : sk_M} {F : Nat → Prop} {a : Nat} {c : sk_C} (h : sk_fr1 M M' F) (ha : F a) : sk_fr1 M (M'.1, va_up M'.2 a c) F := by
  refine ⟨h.1, fun q hq => ?_⟩
  have e : q ≠ a := by rintro rfl; exact hq ha
  show va_up M'.2 a c q = M.2 q
  rw [va_up_ne _ _ e]
  exact h.2 q hq
theorem sk_ff_in {p : Int → Bool} {v : Int → Int} {e lo hi : Int} (he : lo ≤ e ∧ e ≤ hi) : ∀ (n : Nat) (i : Int), (∀ j, i ≤ j → j < i + n → lo ≤ v j ∧ v j ≤ hi) → lo ≤ sk_ff p v e i n ∧ sk_ff p v e i n ≤ hi
  | 0, _, _ => he
  | n + 1, i, h => by
    simp only [sk_ff]
    split
    · exact h i (by omega) (by omega)
    · exact sk_ff_in he n (i + 1) (fun j h1 h2 => h j (by omega) (by omega))
theorem sk_fd_fill (x : Int) : ∀ (n : Nat) (i : Int) (f : Int → Int) (j : Int), sk_fd (fun i f => sk_up f i x) i n f j = if i ≤ j ∧ j < i + n then x else f j
  | 0, i, f, j => by simp only [sk_fd]; rw [if_neg (by omega)]
  | n + 1, i, f, j => by
    simp only [sk_fd]
    rw [sk_fd_fill x n (i + 1) _ j]
    by_cases h : i = j
    · subst h
      rw [if_neg (by omega), if_pos (by omega), sk_up_self]
    · by_cases h2 : i + 1 ≤ j ∧ j < i + 1 + n
      · rw [if_pos h2, if_pos (by omega)]
      · rw [if_neg h2, if_neg (by omega), sk_up_ne _ _ (fun e => h e.symm)]
theorem sk_up_up (f : Int → Int) (x v u : Int) : sk_up (sk_up f x v) x u = sk_up f x u := by
  funext j
  unfold sk_up
  split <;> rfl
theorem sk_up_same {f : Int → Int} {x v : Int} (h : f x = v) : sk_up f x v = f := by
  funext j
  unfold sk_up
  split
  · next e => rw [e, h]
  · rfl
theorem sk_cpyI (f h : Int → Int) (n : Nat) : va_cpy (sk_I f) (sk_I h) 0 0 n = sk_I (fun j => if 0 ≤ j ∧ j < n then f j else h j) := by
  funext k
  unfold va_cpy sk_I
  by_cases hk : k < n
  · rw [if_pos (by omega)]; show (_ : sk_V) = .inl (ite _ _ _); rw [if_pos (by omega)]; simp
  · rw [if_neg (by omega)]; show (_ : sk_V) = .inl (ite _ _ _); rw [if_neg (by omega)]
theorem sk_code {l h s : Int} (a0 : 0 ≤ l) (a1 : l < 100) (b0 : 0 ≤ h) (b1 : h < 4) (c0 : 0 ≤ s) (c1 : s < 16) : sk_or (sk_or (sk_shl l 6) (sk_shl h 4)) s = 64 * l + 16 * h + s := by
  rw [sk_shl_6 a0 (by omega), sk_shl_4 b0 (by omega), sk_or_6 a0 (by omega) (by omega) (by omega), show l * 64 + h * 16 = (l * 4 + h) * 16 by omega, sk_or_4 (by omega) (by omega) c0 c1]
  omega
