/-! ===== texts, and what is left of the instructions ===== -/
section TEXT
variable {w : sk_W} {pc : Nat} {k : sk_K} {index : Nat}
def sk_xor (x y : Int) : Int := (Int32.ofInt x ^^^ Int32.ofInt y).toInt
def o_ixor (k : sk_K) : sk_K := fun L st M => match st with
  | .inl y :: .inl x :: r => k L (.inl (sk_xor x y) :: r) M
  | _ => False
theorem s_ixor (hd : decode (sk_bc w) pc = .ok (.ixor, 1)) (hk : sk_S w (pc + 1) k) : sk_S w pc (o_ixor k) := by
  intro L st M h
  unfold o_ixor at h
  split at h
  next y x r => exact sk_stk (fun _ _ _ _ _ _ _ _ _ _ _ _ _ _ _ hC _ kk => lv_ixor hC.1 hC.2.1 hd (by simpa only [List.map_cons, sk_val, sk_xor, Int32.ofInt_toInt] using kk)) (hk _ _ _ h)
  next => exact h.elim
theorem s_ldcw {n : Int} {v : Int32} (hd : decode (sk_bc w) pc = .ok (.ldc_w index, 3)) (hl : Cond.constant w.2.2.2.2.1.1.cls index v ∈ lw_tbl) (hn : v = Int32.ofInt n) (hk : sk_S w (pc + 3) k) : sk_S w pc (o_i n k) := fun _ _ _ h =>
  sk_stk (fun _ _ _ _ args _ _ _ _ _ _ _ _ _ _ hC _ kk => lv_ldcw hC.1 hC.2.1 hC.2.2.2.2.2.1 (sk_use hl rfl hC.2.2.2.2.2.2.2.2 hC.2.2.2.2.2.2.2.1 args) hd (by rw [hn]; exact kk)) (hk _ _ _ h)
def o_lds (w : sk_W) (i : Nat) (k : sk_K) : sk_K := fun L st M => k L (.inr (.inr (some (w.1.2.2.2.2 (10 + i)))) :: st) M
theorem s_lds {i : Nat} (hd : decode (sk_bc w) pc = .ok (.ldc index, 2)) (hi : i < 7) (ho : (sk_so i).1 = w.2.2.2.2.1.1.cls) (hx : (sk_so i).2.1 = index) (hk : sk_S w (pc + 2) k) : sk_S w pc (o_lds w i k) := by
  intro L st M h p e s m args below meth c H locs cells slots mc ms ls hC h1 h2 hH hLo hl'
  have hkk := hk _ _ _ h p e s m args below meth c H locs cells slots mc ms ls hC h1 h2 hH hLo hl'
  obtain ⟨hx', hb, -, -, -, hown, -, hW, hg⟩ := hC
  have hR := (hg.2.2.2.2.2.1 i hi).warm hW
  rw [ho, hx] at hR
  exact va_ldcS hx' hb hown hR hd hkk
/-- the place of a byte in a list, or -1 -/
def sk_fnd (c : Int) : List Int32 → Int → Int
  | [], _ => -1
  | b :: r, n => if b.toInt = c then n else sk_fnd c r (n + 1)
def o_slen (w : sk_W) (k : sk_K) : sk_K := fun L st M => match st with
  | .inr (.inr (some a)) :: r => 8 ≤ w.2.1 ∧ sk_wt r ≤ 8 ∧ ∃ i : Nat, i < 7 ∧ a = w.1.2.2.2.2 (10 + i) ∧ k L (.inl (sk_sl.getD i 0) :: r) M
  | _ => False
def o_sidx (w : sk_W) (k : sk_K) : sk_K := fun L st M => match st with
  | .inl c :: .inr (.inr (some a)) :: r => 8 ≤ w.2.1 ∧ sk_wt r ≤ 8 ∧ 0 ≤ sk_w c ∧ sk_w c < 256 ∧ ∃ i : Nat, i < 7 ∧ a = w.1.2.2.2.2 (10 + i) ∧ k L (.inl (sk_fnd (sk_w c) (sk_sb.getD i []) 0) :: r) M
  | _ => False
end TEXT
