/-! ===== loops ===== -/
/-- a sum -/
def sk_sm (f : Int → Int) : Int → Nat → Int
  | _, 0 => 0
  | i, n + 1 => f i + sk_sm f (i + 1) n
/-- a fold -/
def sk_fd {α : Type} (f : Int → α → α) : Int → Nat → α → α
  | _, 0, s => s
  | i, n + 1, s => sk_fd f (i + 1) n (f i s)
theorem sk_for {P : Int → Int → Prop} (f : Int → Int) (lo hi : Int) (body : ∀ i acc, lo ≤ i → i < hi → P (i + 1) (acc + f i) → P i acc) : ∀ (n : Nat) (i acc : Int), lo ≤ i → i + n = hi → P hi (acc + sk_sm f i n) → P i acc
  | 0, i, acc, _, h, k => by
    have e : i = hi := by omega
    subst e
    simpa [sk_sm] using k
  | n + 1, i, acc, h0, h, k => by
    refine body i acc h0 (by omega) (sk_for f lo hi body n (i + 1) _ (by omega) (by omega) ?_)
    rw [show acc + f i + sk_sm f (i + 1) n = acc + sk_sm f i (n + 1) by simp [sk_sm]; omega]
    exact k
theorem sk_iter {α : Type} {P : Int → α → Prop} (f : Int → α → α) (lo hi : Int) (body : ∀ i s, lo ≤ i → i < hi → P (i + 1) (f i s) → P i s) : ∀ (n : Nat) (i : Int) (s : α), lo ≤ i → i + n = hi → P hi (sk_fd f i n s) → P i s
  | 0, i, s, _, h, k => by
    have e : i = hi := by omega
    subst e
    exact k
  | n + 1, i, s, h0, h, k => body i s h0 (by omega) (sk_iter f lo hi body n (i + 1) _ (by omega) (by omega) k)
theorem sk_sm_congr {f f' : Int → Int} : ∀ (n : Nat) (i : Int), (∀ j, i ≤ j → j < i + n → f j = f' j) → sk_sm f i n = sk_sm f' i n
  | 0, _, _ => rfl
  | n + 1, i, h => by
    simp only [sk_sm]
    rw [h i (by omega) (by omega), sk_sm_congr n (i + 1) (fun j h1 h2 => h j (by omega) (by omega))]
theorem sk_sm_le {f : Int → Int} {a b : Int} : ∀ (n : Nat) (i : Int), (∀ j, i ≤ j → j < i + n → a ≤ f j ∧ f j ≤ b) → a * n ≤ sk_sm f i n ∧ sk_sm f i n ≤ b * n
  | 0, _, _ => by simp [sk_sm]
  | n + 1, i, h => by
    obtain ⟨h1, h2⟩ := h i (by omega) (by omega)
    obtain ⟨h3, h4⟩ := sk_sm_le (f := f) (a := a) (b := b) n (i + 1) (fun j h1 h2 => h j (by omega) (by omega))
    simp only [sk_sm]
    push_cast
    rw [Int.mul_add, Int.mul_add]
    omega
/-- fewer values are known, place by place -/
def sk_le : List (Option sk_V) → List (Option sk_V) → Prop
  | [], _ => True
  | none :: r, _ :: r' => sk_le r r'
  | none :: r, [] => sk_le r []
  | some v :: r, some v' :: r' => v = v' ∧ sk_le r r'
  | some _ :: _, _ => False
theorem sk_le_nth : ∀ (L' L : List (Option sk_V)), sk_le L' L → ∀ (n : Nat) (v : sk_V), sk_nth L' n = some (some v) → sk_nth L n = some (some v)
  | [], _, _, n, v, h => by simp [sk_nth] at h
  | none :: r, b :: r', hl, 0, v, h => by simp [sk_nth] at h
  | none :: r, b :: r', hl, n + 1, v, h => by simp only [sk_nth] at h ⊢; exact sk_le_nth r r' (by simpa [sk_le] using hl) n v h
  | none :: r, [], hl, 0, v, h => by simp [sk_nth] at h
  | none :: r, [], hl, n + 1, v, h => by
    simp only [sk_nth] at h
    have := sk_le_nth r [] (by simpa [sk_le] using hl) n v h
    simp [sk_nth] at this
  | some a :: r, some b :: r', hl, 0, v, h => by
    simp only [sk_le] at hl
    simp only [sk_nth] at h ⊢
    rw [← hl.1]; exact h
  | some a :: r, some b :: r', hl, n + 1, v, h => by
    simp only [sk_le] at hl
    simp only [sk_nth] at h ⊢
    exact sk_le_nth r r' hl.2 n v h
  | some a :: r, none :: r', hl, _, _, _ => by simp [sk_le] at hl
  | some a :: r, [], hl, _, _, _ => by simp [sk_le] at hl
theorem sk_drop {w : sk_W} {pc : Nat} {L L' : List (Option sk_V)} {st : List sk_V} {M : sk_M} (k : sk_B w pc L' st M) (h : sk_le L' L) : sk_B w pc L st M := sk_fewer (sk_le_nth L' L h) k
