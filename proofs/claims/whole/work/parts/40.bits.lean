/-! ===== bits of small numbers ===== -/
theorem sk_ofN (n : Nat) : Int32.ofInt (n : Int) = nI n := Int32.ofInt_eq_ofNat
theorem sk_nat {x : Int} (h : 0 ≤ x) : ∃ n : Nat, x = (n : Int) := ⟨x.toNat, by omega⟩
theorem sk_sl32 : ∀ n, n < 32 → ((nI n &&& 31).toBitVec.smod 32).toNat = n := by decide +kernel
theorem sk_and_k (k : Nat) {x m : Int} (hm : (Int32.ofInt m).toBitVec.toNat = 2 ^ k - 1) (hk : k ≤ 30) (h0 : 0 ≤ x) (h1 : x < 2147483648) : sk_and x m = x % 2 ^ k := by
  obtain ⟨n, rfl⟩ := sk_nat h0
  unfold sk_and
  rw [sk_ofN, pk_andN (by omega) k hm, nI_toInt]
  · push_cast; rfl
  · have : n % 2 ^ k < 2 ^ k := Nat.mod_lt _ (Nat.two_pow_pos k)
    have h2 : 2 ^ k ≤ 2 ^ 30 := Nat.pow_le_pow_right (by omega) hk
    omega
theorem sk_and_15 {x : Int} (h0 : 0 ≤ x) (h1 : x < 2147483648) : sk_and x 15 = x % 16 := sk_and_k 4 (by decide +kernel) (by omega) h0 h1
theorem sk_and_3 {x : Int} (h0 : 0 ≤ x) (h1 : x < 2147483648) : sk_and x 3 = x % 4 := sk_and_k 2 (by decide +kernel) (by omega) h0 h1
theorem sk_and_1 {x : Int} (h0 : 0 ≤ x) (h1 : x < 2147483648) : sk_and x 1 = x % 2 := sk_and_k 1 (by decide +kernel) (by omega) h0 h1
theorem sk_shr_k (k : Nat) {x : Int} (hk : k < 32) (h0 : 0 ≤ x) (h1 : x < 2147483648) : sk_shr x k = x / 2 ^ k := by
  obtain ⟨n, rfl⟩ := sk_nat h0
  unfold sk_shr
  rw [sk_ofN, sk_ofN, pk_shrN (by omega) _ k (sk_sl32 k hk), nI_toInt]
  · push_cast; rfl
  · have : n / 2 ^ k ≤ n := Nat.div_le_self _ _
    omega
theorem sk_shl_k (k : Nat) {x : Int} (hk : k < 32) (h0 : 0 ≤ x) (h1 : x * 2 ^ k < 2147483648) : sk_shl x k = x * 2 ^ k := by
  obtain ⟨n, rfl⟩ := sk_nat h0
  have h2 : n * 2 ^ k < 2 ^ 31 := by
    have h3 : ((n * 2 ^ k : Nat) : Int) < 2147483648 := by push_cast; exact h1
    omega
  unfold sk_shl
  rw [sk_ofN, sk_ofN, pk_shlN _ k (sk_sl32 k hk) (by omega), nI_toInt h2]
  push_cast; rfl
theorem sk_shr_6 {x : Int} (h0 : 0 ≤ x) (h1 : x < 2147483648) : sk_shr x 6 = x / 64 := sk_shr_k 6 (by omega) h0 h1
theorem sk_shr_4 {x : Int} (h0 : 0 ≤ x) (h1 : x < 2147483648) : sk_shr x 4 = x / 16 := sk_shr_k 4 (by omega) h0 h1
theorem sk_shl_6 {x : Int} (h0 : 0 ≤ x) (h1 : x < 1000) : sk_shl x 6 = x * 64 := sk_shl_k 6 (by omega) h0 (by omega)
theorem sk_shl_4 {x : Int} (h0 : 0 ≤ x) (h1 : x < 1000000) : sk_shl x 4 = x * 16 := sk_shl_k 4 (by omega) h0 (by omega)
theorem sk_or_nat (a b : Nat) (ha : a < 2 ^ 31) (hb : b < 2 ^ 31) : sk_or (a : Int) (b : Int) = ((a ||| b : Nat) : Int) := by
  have h : a ||| b < 2 ^ 31 := Nat.or_lt_two_pow ha hb
  unfold sk_or
  rw [sk_ofN, sk_ofN, ← nI_toInt h]
  congr 1
  apply Int32.toBitVec_inj.mp
  rw [Int32.toBitVec_or]
  show BitVec.ofNat 32 a ||| BitVec.ofNat 32 b = BitVec.ofNat 32 (a ||| b)
  rw [BitVec.ofNat_or]
/-- bits that are apart -/
theorem sk_or_add (k : Nat) {a b : Int} (h0 : 0 ≤ a) (h1 : a * 2 ^ k < 2147483648) (hb0 : 0 ≤ b) (hb : b < 2 ^ k) (hk : k ≤ 30) : sk_or (a * 2 ^ k) b = a * 2 ^ k + b := by
  obtain ⟨n, rfl⟩ := sk_nat h0
  obtain ⟨m, rfl⟩ := sk_nat hb0
  have hm : m < 2 ^ k := by exact_mod_cast hb
  have h2 : 2 ^ k ≤ 2 ^ 30 := Nat.pow_le_pow_right (by omega) hk
  have h3 : n * 2 ^ k < 2 ^ 31 := by
    have h3 : ((n * 2 ^ k : Nat) : Int) < 2147483648 := by push_cast; exact h1
    omega
  have e : ((n : Int) * 2 ^ k) = ((n * 2 ^ k : Nat) : Int) := by push_cast; rfl
  rw [e, sk_or_nat _ _ h3 (by omega), Nat.mul_comm n, ← Nat.two_pow_add_eq_or_of_lt hm]
  push_cast; rfl
theorem sk_or_6 {a b : Int} (h0 : 0 ≤ a) (h1 : a < 1000) (hb0 : 0 ≤ b) (hb : b < 64) : sk_or (a * 64) b = a * 64 + b := sk_or_add 6 h0 (by omega) hb0 (by omega) (by omega)
theorem sk_or_4 {a b : Int} (h0 : 0 ≤ a) (h1 : a < 1000000) (hb0 : 0 ≤ b) (hb : b < 16) : sk_or (a * 16) b = a * 16 + b := sk_or_add 4 h0 (by omega) hb0 (by omega) (by omega)
