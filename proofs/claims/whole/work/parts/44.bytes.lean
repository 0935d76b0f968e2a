/-! ===== bytes of a number ===== -/
theorem sk_and_255 (z : Int) : sk_and z 255 = z % 256 := by
  unfold sk_and
  have h1 : ((Int32.ofInt z &&& Int32.ofInt 255).toBitVec).toNat = (Int32.ofInt z).toBitVec.toNat % 256 := by
    rw [Int32.toBitVec_and, BitVec.toNat_and]
    exact Nat.and_two_pow_sub_one_eq_mod _ 8
  have h2 : (Int32.ofInt z).toBitVec.toNat = (z % 4294967296).toNat := by
    show (BitVec.ofInt 32 z).toNat = _
    rw [BitVec.toNat_ofInt]
    rfl
  have h3 : (Int32.ofInt z &&& Int32.ofInt 255).toInt = ((Int32.ofInt z &&& Int32.ofInt 255).toBitVec).toInt := rfl
  rw [h3, BitVec.toInt_eq_toNat_cond, h1, h2]
  have h4 : ((z % 4294967296).toNat % 256 : Nat) < 256 := Nat.mod_lt _ (by omega)
  rw [if_pos (by omega)]
  omega
theorem sk_shr_lit (x : Int) (k : Nat) (hk : k < 32) : sk_shr x k = sk_w x / 2 ^ k := by
  unfold sk_shr sk_w
  have h1 : ((Int32.ofInt (k : Int)) &&& 31).toBitVec.smod 32 = BitVec.ofNat 32 k := by
    have key : ∀ k : Nat, k < 32 → ((Int32.ofInt (k : Int)) &&& 31).toBitVec.smod 32 = BitVec.ofNat 32 k := by decide +kernel
    exact key k hk
  have h3 : ∀ v : Int32, v.toInt = v.toBitVec.toInt := fun _ => rfl
  rw [h3, Int32.toBitVec_shiftRight, h1, h3]
  rw [BitVec.sshiftRight_eq', BitVec.toInt_sshiftRight]
  have h4 : (BitVec.ofNat 32 k).toNat = k := by rw [BitVec.toNat_ofNat]; omega
  rw [h4, Int.shiftRight_eq_div_pow]
  norm_cast
theorem sk_ushr_lit (x : Int) (k : Nat) (hk : k < 32) : sk_ushr x k % 256 = (x % 4294967296) / 2 ^ k % 256 := by
  unfold sk_ushr
  have h1 : ((Int32.ofInt (k : Int)).toUInt32 &&& Int32.toUInt32 31) = UInt32.ofNat k := by
    have key : ∀ k : Nat, k < 32 → ((Int32.ofInt (k : Int)).toUInt32 &&& Int32.toUInt32 31) = UInt32.ofNat k := by decide +kernel
    exact key k hk
  rw [h1]
  have h3 : ∀ v : Int32, v.toInt = v.toBitVec.toInt := fun _ => rfl
  have h5 : (((Int32.ofInt x).toUInt32 >>> UInt32.ofNat k).toInt32.toBitVec).toNat = (x % 4294967296).toNat / 2 ^ k := by
    show ((Int32.ofInt x).toUInt32 >>> UInt32.ofNat k).toNat = _
    rw [UInt32.toNat_shiftRight, Nat.shiftRight_eq_div_pow]
    have h6 : (UInt32.ofNat k).toNat % 32 = k := by
      have key : ∀ k : Nat, k < 32 → (UInt32.ofNat k).toNat % 32 = k := by decide +kernel
      exact key k hk
    have h2 : (Int32.ofInt x).toUInt32.toNat = (x % 4294967296).toNat := by
      show (BitVec.ofInt 32 x).toNat = _
      rw [BitVec.toNat_ofInt]
      rfl
    rw [h6, h2]
  rw [h3, BitVec.toInt_eq_toNat_cond, h5]
  have h7 : (((x % 4294967296).toNat / 2 ^ k : Nat) : Int) = (x % 4294967296) / 2 ^ k := by
    rw [Int.natCast_ediv, Int.toNat_of_nonneg (by omega), Int.natCast_pow]
    rfl
  split
  · rw [h7]
  · rw [← h7]; omega
/-- byte k of a number, from the lowest -/
def fd_b (x : Int) (k : Nat) : Int := sk_w x / 2 ^ (8 * k) % 256
theorem fd_b_in (x : Int) (k : Nat) : 0 ≤ fd_b x k ∧ fd_b x k < 256 := by unfold fd_b; omega
theorem fd_shr (x : Int) {k : Nat} (h : k < 4) : sk_and (sk_shr x ((8 * k : Nat) : Int)) 255 = fd_b x k := by
  rw [sk_and_255, sk_shr_lit x _ (by omega)]
  rfl
theorem fd_ushr (x : Int) {k : Nat} (h : k < 4) : sk_and (sk_ushr x ((8 * k : Nat) : Int)) 255 = fd_b x k := by
  rw [sk_and_255, sk_ushr_lit x _ (by omega)]
  unfold fd_b
  have h1 : sk_w x = x % 4294967296 ∨ sk_w x = x % 4294967296 - 4294967296 := by
    have h3 : sk_w x = (BitVec.ofInt 32 x).toInt := rfl
    rw [h3, BitVec.toInt_ofInt]
    unfold Int.bmod
    simp only []
    split <;> omega
  have hk : k = 0 ∨ k = 1 ∨ k = 2 ∨ k = 3 := by omega
  rcases hk with rfl | rfl | rfl | rfl <;> simp only [Nat.reduceMul, Int.reducePow] <;> omega
