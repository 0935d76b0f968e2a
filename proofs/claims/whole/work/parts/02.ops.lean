/-! ===== instructions on values and the stack ===== -/
theorem sk_stk {w : sk_W} {pc pc' : Nat} {L : List (Option sk_V)} {st st' : List sk_V} {M : sk_M}
    (hW : ∀ (p : Program) (e : Env) (s : State) (m : MethodId) (args : Array Value) (below : List Frame) (meth : Method) (c : Code) (H : Heap) (locs : List Loc) (cells slots : Nat) (R : Room) (Q : State → Prop) (ls : Array Slot),
      sk_Cx w.1 w.2.2.2.2.1 p s m meth c → lv_has ls w.2.2.2.2.1.2.2.1 (sk_lv 0 L) → W p w.1.1 e R s m args below meth c H locs cells slots Q (F0 m pc' ls (st'.map sk_val)) → W p w.1.1 e R s m args below meth c H locs cells slots Q (F0 m pc ls (st.map sk_val)))
    (k : sk_B w pc' L st' M) : sk_B w pc L st M := by
  intro p e s m args below meth c H locs cells slots mc ms ls hC h1 h2 hH hLo hl
  exact hW p e s m args below meth c H locs cells slots _ _ ls hC hl (k p e s m args below meth c H locs cells slots mc ms ls hC h1 h2 hH hLo hl)
abbrev sk_bc (w : sk_W) : ByteArray := w.2.2.2.2.1.2.1
section OPS
variable {w : sk_W} {pc : Nat} {k k1 k2 : sk_K}
def o_i (n : Int) (k : sk_K) : sk_K := fun L st M => k L (.inl n :: st) M
theorem s_iconst {n : Int} (hd : decode (sk_bc w) pc = .ok (.iconst n, 1)) (hk : sk_S w (pc + 1) k) : sk_S w pc (o_i n k) := fun _ _ _ h =>
  sk_stk (fun _ _ _ _ _ _ _ _ _ _ _ _ _ _ _ hC _ kk => lv_iconst hC.1 hC.2.1 hd rfl kk) (hk _ _ _ h)
theorem s_bipush {n : Int} (hd : decode (sk_bc w) pc = .ok (.bipush n, 2)) (hn : (Int8.ofInt n).toInt32 = Int32.ofInt n) (hk : sk_S w (pc + 2) k) : sk_S w pc (o_i n k) := fun _ _ _ h =>
  sk_stk (fun _ _ _ _ _ _ _ _ _ _ _ _ _ _ _ hC _ kk => lv_bipush hC.1 hC.2.1 hd hn kk) (hk _ _ _ h)
theorem s_sipush {n : Int} (hd : decode (sk_bc w) pc = .ok (.sipush n, 3)) (hn : (Int16.ofInt n).toInt32 = Int32.ofInt n) (hk : sk_S w (pc + 3) k) : sk_S w pc (o_i n k) := fun _ _ _ h =>
  sk_stk (fun _ _ _ _ _ _ _ _ _ _ _ _ _ _ _ hC _ kk => lv_sipush hC.1 hC.2.1 hd hn kk) (hk _ _ _ h)
theorem s_ldc {n : Int} {index : Nat} {v : Int32} (hd : decode (sk_bc w) pc = .ok (.ldc index, 2)) (hl : Cond.constant w.2.2.2.2.1.1.cls index v ∈ lw_tbl) (hn : v = Int32.ofInt n) (hk : sk_S w (pc + 2) k) : sk_S w pc (o_i n k) := fun _ _ _ h =>
  sk_stk (fun _ _ _ _ args _ _ _ _ _ _ _ _ _ _ hC _ kk => lv_ldc hC.1 hC.2.1 hC.2.2.2.2.2.1 (sk_use hl rfl hC.2.2.2.2.2.2.2.2 hC.2.2.2.2.2.2.2.1 args) hd (by rw [hn]; exact kk)) (hk _ _ _ h)
def o_l (n : Int) (k : sk_K) : sk_K := fun L st M => k L (.inr (.inl n) :: st) M
theorem s_lconst {n : Fin 2} {x : Int} (hd : decode (sk_bc w) pc = .ok (.lconst n, 1)) (hn : Int64.ofNat (n : Nat) = Int64.ofInt x) (hk : sk_S w (pc + 1) k) : sk_S w pc (o_l x k) := fun _ _ _ h =>
  sk_stk (fun _ _ _ _ _ _ _ _ _ _ _ _ _ _ _ hC _ kk => lv_lconst hC.1 hC.2.1 hd hn kk) (hk _ _ _ h)
theorem s_ldc2 {n : Int} {index : Nat} {v : Int64} (hd : decode (sk_bc w) pc = .ok (.ldc2_w index, 3)) (hl : Cond.constantLong w.2.2.2.2.1.1.cls index v ∈ lw_tbl) (hn : v = Int64.ofInt n) (hk : sk_S w (pc + 3) k) : sk_S w pc (o_l n k) := fun _ _ _ h =>
  sk_stk (fun _ _ _ _ args _ _ _ _ _ _ _ _ _ _ hC _ kk => lv_ldc2 hC.1 hC.2.1 hC.2.2.2.2.2.1 (sk_use hl rfl hC.2.2.2.2.2.2.2.2 hC.2.2.2.2.2.2.2.1 args) hd (by rw [hn]; exact kk)) (hk _ _ _ h)
def o_null (k : sk_K) : sk_K := fun L st M => k L (.inr (.inr none) :: st) M
theorem s_null (hd : decode (sk_bc w) pc = .ok (.aconst_null, 1)) (hk : sk_S w (pc + 1) k) : sk_S w pc (o_null k) := fun _ _ _ h =>
  sk_stk (fun _ _ _ _ _ _ _ _ _ _ _ _ _ _ _ hC _ kk => lv_null hC.1 hC.2.1 hd kk) (hk _ _ _ h)
def o_iload (n : Nat) (k : sk_K) : sk_K := fun L st M => match sk_nth L n with
  | some (some (.inl x)) => k L (.inl x :: st) M
  | _ => False
theorem s_iload {n : Nat} (hd : decode (sk_bc w) pc = .ok (.iload n, 2)) (hk : sk_S w (pc + 2) k) : sk_S w pc (o_iload n k) := by
  intro L st M h
  unfold o_iload at h
  split at h
  next x hx => exact sk_stk (fun _ _ _ _ _ _ _ _ _ _ _ _ _ _ _ hC hl kk => lv_iload hC.1 hC.2.1 hd (sk_loc hl hx) kk) (hk _ _ _ h)
  next => exact h.elim
theorem s_iload_n {n : Fin 4} {i : Nat} (hd : decode (sk_bc w) pc = .ok (.iload_n n, 1)) (hi : (n : Nat) = i) (hk : sk_S w (pc + 1) k) : sk_S w pc (o_iload i k) := by
  subst hi
  intro L st M h
  unfold o_iload at h
  split at h
  next x hx => exact sk_stk (fun _ _ _ _ _ _ _ _ _ _ _ _ _ _ _ hC hl kk => lv_iload_n hC.1 hC.2.1 hd rfl (sk_loc hl hx) kk) (hk _ _ _ h)
  next => exact h.elim
def o_lload (n : Nat) (k : sk_K) : sk_K := fun L st M => match sk_nth L n with
  | some (some (.inr (.inl x))) => k L (.inr (.inl x) :: st) M
  | _ => False
theorem s_lload {n : Nat} (hd : decode (sk_bc w) pc = .ok (.lload n, 2)) (hk : sk_S w (pc + 2) k) : sk_S w pc (o_lload n k) := by
  intro L st M h
  unfold o_lload at h
  split at h
  next x hx => exact sk_stk (fun _ _ _ _ _ _ _ _ _ _ _ _ _ _ _ hC hl kk => lv_lload hC.1 hC.2.1 hd (sk_loc hl hx) kk) (hk _ _ _ h)
  next => exact h.elim
theorem s_lload_n {n : Fin 4} {i : Nat} (hd : decode (sk_bc w) pc = .ok (.lload_n n, 1)) (hi : (n : Nat) = i) (hk : sk_S w (pc + 1) k) : sk_S w pc (o_lload i k) := by
  subst hi
  intro L st M h
  unfold o_lload at h
  split at h
  next x hx => exact sk_stk (fun _ _ _ _ _ _ _ _ _ _ _ _ _ _ _ hC hl kk => lv_lload_n hC.1 hC.2.1 hd rfl (sk_loc hl hx) kk) (hk _ _ _ h)
  next => exact h.elim
def o_aload (n : Nat) (k : sk_K) : sk_K := fun L st M => match sk_nth L n with
  | some (some (.inr (.inr r))) => k L (.inr (.inr r) :: st) M
  | _ => False
theorem s_aload {n : Nat} (hd : decode (sk_bc w) pc = .ok (.aload n, 2)) (hk : sk_S w (pc + 2) k) : sk_S w pc (o_aload n k) := by
  intro L st M h
  unfold o_aload at h
  split at h
  next r hx =>
    cases r with
    | none => exact sk_stk (fun _ _ _ _ _ _ _ _ _ _ _ _ _ _ _ hC hl kk => lv_aloadN hC.1 hC.2.1 hd (sk_loc hl hx) kk) (hk _ _ _ h)
    | some a => exact sk_stk (fun _ _ _ _ _ _ _ _ _ _ _ _ _ _ _ hC hl kk => lv_aload hC.1 hC.2.1 hd (sk_loc hl hx) kk) (hk _ _ _ h)
  next => exact h.elim
theorem s_aload_n {n : Fin 4} {i : Nat} (hd : decode (sk_bc w) pc = .ok (.aload_n n, 1)) (hi : (n : Nat) = i) (hk : sk_S w (pc + 1) k) : sk_S w pc (o_aload i k) := by
  subst hi
  intro L st M h
  unfold o_aload at h
  split at h
  next r hx =>
    cases r with
    | none => exact sk_stk (fun _ _ _ _ _ _ _ _ _ _ _ _ _ _ _ hC hl kk => lv_aload_nN hC.1 hC.2.1 hd rfl (sk_loc hl hx) kk) (hk _ _ _ h)
    | some a => exact sk_stk (fun _ _ _ _ _ _ _ _ _ _ _ _ _ _ _ hC hl kk => lv_aload_n hC.1 hC.2.1 hd rfl (sk_loc hl hx) kk) (hk _ _ _ h)
  next => exact h.elim
def o_istore (n : Nat) (k : sk_K) : sk_K := fun L st M => match st with
  | .inl x :: r => sk_lok L n = true ∧ k (sk_set L n (some (.inl x))) r M
  | _ => False
theorem s_istore {n : Nat} (hd : decode (sk_bc w) pc = .ok (.istore n, 2)) (hn : n < w.2.2.2.2.1.2.2.1) (hk : sk_S w (pc + 2) k) : sk_S w pc (o_istore n k) := by
  intro L st M h
  unfold o_istore at h
  split at h
  next x r =>
    intro p e s m args below meth c H locs cells slots mc ms ls hC h1 h2 hH hLo hl
    exact lv_istore hC.1 hC.2.1 hd hl hn rfl (fun ls' hl' => hk _ _ _ h.2 p e s m args below meth c H locs cells slots mc ms ls' hC h1 h2 hH hLo (sk_put1 h.1 hl'))
  next => exact h.elim
theorem s_istore_n {n : Fin 4} {i : Nat} (hd : decode (sk_bc w) pc = .ok (.istore_n n, 1)) (hi : (n : Nat) = i) (hn : i < w.2.2.2.2.1.2.2.1) (hk : sk_S w (pc + 1) k) : sk_S w pc (o_istore i k) := by
  subst hi
  intro L st M h
  unfold o_istore at h
  split at h
  next x r =>
    intro p e s m args below meth c H locs cells slots mc ms ls hC h1 h2 hH hLo hl
    exact lv_istore_n hC.1 hC.2.1 hd rfl hl hn rfl (fun ls' hl' => hk _ _ _ h.2 p e s m args below meth c H locs cells slots mc ms ls' hC h1 h2 hH hLo (sk_put1 h.1 hl'))
  next => exact h.elim
def o_astore (n : Nat) (k : sk_K) : sk_K := fun L st M => match st with
  | .inr (.inr x) :: r => sk_lok L n = true ∧ k (sk_set L n (some (.inr (.inr x)))) r M
  | _ => False
theorem s_astore {n : Nat} (hd : decode (sk_bc w) pc = .ok (.astore n, 2)) (hn : n < w.2.2.2.2.1.2.2.1) (hk : sk_S w (pc + 2) k) : sk_S w pc (o_astore n k) := by
  intro L st M h
  unfold o_astore at h
  split at h
  next x r =>
    intro p e s m args below meth c H locs cells slots mc ms ls hC h1 h2 hH hLo hl
    cases x with
    | none => exact lv_astoreN hC.1 hC.2.1 hd hl hn rfl (fun ls' hl' => hk _ _ _ h.2 p e s m args below meth c H locs cells slots mc ms ls' hC h1 h2 hH hLo (sk_put1 h.1 hl'))
    | some a => exact lv_astore hC.1 hC.2.1 hd hl hn rfl (fun ls' hl' => hk _ _ _ h.2 p e s m args below meth c H locs cells slots mc ms ls' hC h1 h2 hH hLo (sk_put1 h.1 hl'))
  next => exact h.elim
theorem s_astore_n {n : Fin 4} {i : Nat} (hd : decode (sk_bc w) pc = .ok (.astore_n n, 1)) (hi : (n : Nat) = i) (hn : i < w.2.2.2.2.1.2.2.1) (hk : sk_S w (pc + 1) k) : sk_S w pc (o_astore i k) := by
  subst hi
  intro L st M h
  unfold o_astore at h
  split at h
  next x r =>
    intro p e s m args below meth c H locs cells slots mc ms ls hC h1 h2 hH hLo hl
    cases x with
    | none => exact lv_astore_nN hC.1 hC.2.1 hd rfl hl hn rfl (fun ls' hl' => hk _ _ _ h.2 p e s m args below meth c H locs cells slots mc ms ls' hC h1 h2 hH hLo (sk_put1 h.1 hl'))
    | some a => exact lv_astore_n hC.1 hC.2.1 hd rfl hl hn rfl (fun ls' hl' => hk _ _ _ h.2 p e s m args below meth c H locs cells slots mc ms ls' hC h1 h2 hH hLo (sk_put1 h.1 hl'))
  next => exact h.elim
def o_iinc (n : Nat) (z : Int) (k : sk_K) : sk_K := fun L st M => match sk_nth L n with
  | some (some (.inl x)) => sk_lok L n = true ∧ k (sk_set L n (some (.inl (x + z)))) st M
  | _ => False
theorem s_iinc {n : Nat} {z : Int} (hd : decode (sk_bc w) pc = .ok (.iinc n z, 3)) (hn : n < w.2.2.2.2.1.2.2.1) (hk : sk_S w (pc + 3) k) : sk_S w pc (o_iinc n z k) := by
  intro L st M h
  unfold o_iinc at h
  split at h
  next x hx =>
    intro p e s m args below meth c H locs cells slots mc ms ls hC h1 h2 hH hLo hl
    obtain ⟨q, hq⟩ := List.getElem?_of_mem (sk_lv_mem L 0 n _ hx)
    rw [Nat.zero_add] at hq
    exact lv_iinc hC.1 hC.2.1 hd hl hq (Int32.ofInt_add x z).symm hn rfl (fun ls' hl' => hk _ _ _ h.2 p e s m args below meth c H locs cells slots mc ms ls' hC h1 h2 hH hLo (sk_put1 (v := .inl (x + z)) h.1 hl'))
  next => exact h.elim
/-! arithmetic -/
def o_iadd (k : sk_K) : sk_K := fun L st M => match st with
  | .inl y :: .inl x :: r => k L (.inl (x + y) :: r) M
  | _ => False
theorem s_iadd (hd : decode (sk_bc w) pc = .ok (.iadd, 1)) (hk : sk_S w (pc + 1) k) : sk_S w pc (o_iadd k) := by
  intro L st M h
  unfold o_iadd at h
  split at h
  next y x r => exact sk_stk (fun _ _ _ _ _ _ _ _ _ _ _ _ _ _ _ hC _ kk => lv_iadd hC.1 hC.2.1 hd (by rw [← Int32.ofInt_add]; exact kk)) (hk _ _ _ h)
  next => exact h.elim
def o_isub (k : sk_K) : sk_K := fun L st M => match st with
  | .inl y :: .inl x :: r => k L (.inl (x - y) :: r) M
  | _ => False
theorem s_isub (hd : decode (sk_bc w) pc = .ok (.isub, 1)) (hk : sk_S w (pc + 1) k) : sk_S w pc (o_isub k) := by
  intro L st M h
  unfold o_isub at h
  split at h
  next y x r => exact sk_stk (fun _ _ _ _ _ _ _ _ _ _ _ _ _ _ _ hC _ kk => lv_isub hC.1 hC.2.1 hd (by rw [← Int32.ofInt_sub]; exact kk)) (hk _ _ _ h)
  next => exact h.elim
def o_imul (k : sk_K) : sk_K := fun L st M => match st with
  | .inl y :: .inl x :: r => k L (.inl (x * y) :: r) M
  | _ => False
theorem s_imul (hd : decode (sk_bc w) pc = .ok (.imul, 1)) (hk : sk_S w (pc + 1) k) : sk_S w pc (o_imul k) := by
  intro L st M h
  unfold o_imul at h
  split at h
  next y x r => exact sk_stk (fun _ _ _ _ _ _ _ _ _ _ _ _ _ _ _ hC _ kk => lv_imul hC.1 hC.2.1 hd (by rw [← Int32.ofInt_mul]; exact kk)) (hk _ _ _ h)
  next => exact h.elim
def o_ineg (k : sk_K) : sk_K := fun L st M => match st with
  | .inl x :: r => k L (.inl (-x) :: r) M
  | _ => False
theorem s_ineg (hd : decode (sk_bc w) pc = .ok (.ineg, 1)) (hk : sk_S w (pc + 1) k) : sk_S w pc (o_ineg k) := by
  intro L st M h
  unfold o_ineg at h
  split at h
  next x r => exact sk_stk (fun _ _ _ _ _ _ _ _ _ _ _ _ _ _ _ hC _ kk => lv_ineg hC.1 hC.2.1 hd (by rw [← Int32.ofInt_neg]; exact kk)) (hk _ _ _ h)
  next => exact h.elim
def sk_and (x y : Int) : Int := (Int32.ofInt x &&& Int32.ofInt y).toInt
def sk_or (x y : Int) : Int := (Int32.ofInt x ||| Int32.ofInt y).toInt
def sk_shl (x y : Int) : Int := (Int32.ofInt x <<< (Int32.ofInt y &&& 31)).toInt
def sk_shr (x y : Int) : Int := (Int32.ofInt x >>> (Int32.ofInt y &&& 31)).toInt
def sk_ushr (x y : Int) : Int := ((Int32.ofInt x).toUInt32 >>> ((Int32.ofInt y).toUInt32 &&& Int32.toUInt32 31)).toInt32.toInt
def o_iand (k : sk_K) : sk_K := fun L st M => match st with
  | .inl y :: .inl x :: r => k L (.inl (sk_and x y) :: r) M
  | _ => False
theorem s_iand (hd : decode (sk_bc w) pc = .ok (.iand, 1)) (hk : sk_S w (pc + 1) k) : sk_S w pc (o_iand k) := by
  intro L st M h
  unfold o_iand at h
  split at h
  next y x r => exact sk_stk (fun _ _ _ _ _ _ _ _ _ _ _ _ _ _ _ hC _ kk => lv_iand hC.1 hC.2.1 hd (by simpa only [List.map_cons, sk_val, sk_and, Int32.ofInt_toInt] using kk)) (hk _ _ _ h)
  next => exact h.elim
def o_ior (k : sk_K) : sk_K := fun L st M => match st with
  | .inl y :: .inl x :: r => k L (.inl (sk_or x y) :: r) M
  | _ => False
theorem s_ior (hd : decode (sk_bc w) pc = .ok (.ior, 1)) (hk : sk_S w (pc + 1) k) : sk_S w pc (o_ior k) := by
  intro L st M h
  unfold o_ior at h
  split at h
  next y x r => exact sk_stk (fun _ _ _ _ _ _ _ _ _ _ _ _ _ _ _ hC _ kk => lv_ior hC.1 hC.2.1 hd (by simpa only [List.map_cons, sk_val, sk_or, Int32.ofInt_toInt] using kk)) (hk _ _ _ h)
  next => exact h.elim
def o_ishl (k : sk_K) : sk_K := fun L st M => match st with
  | .inl y :: .inl x :: r => k L (.inl (sk_shl x y) :: r) M
  | _ => False
theorem s_ishl (hd : decode (sk_bc w) pc = .ok (.ishl, 1)) (hk : sk_S w (pc + 1) k) : sk_S w pc (o_ishl k) := by
  intro L st M h
  unfold o_ishl at h
  split at h
  next y x r => exact sk_stk (fun _ _ _ _ _ _ _ _ _ _ _ _ _ _ _ hC _ kk => lv_ishl hC.1 hC.2.1 hd (by simpa only [List.map_cons, sk_val, sk_shl, Int32.ofInt_toInt] using kk)) (hk _ _ _ h)
  next => exact h.elim
def o_ishr (k : sk_K) : sk_K := fun L st M => match st with
  | .inl y :: .inl x :: r => k L (.inl (sk_shr x y) :: r) M
  | _ => False
theorem s_ishr (hd : decode (sk_bc w) pc = .ok (.ishr, 1)) (hk : sk_S w (pc + 1) k) : sk_S w pc (o_ishr k) := by
  intro L st M h
  unfold o_ishr at h
  split at h
  next y x r => exact sk_stk (fun _ _ _ _ _ _ _ _ _ _ _ _ _ _ _ hC _ kk => lv_ishr hC.1 hC.2.1 hd (by simpa only [List.map_cons, sk_val, sk_shr, Int32.ofInt_toInt] using kk)) (hk _ _ _ h)
  next => exact h.elim
def o_iushr (k : sk_K) : sk_K := fun L st M => match st with
  | .inl y :: .inl x :: r => k L (.inl (sk_ushr x y) :: r) M
  | _ => False
theorem s_iushr (hd : decode (sk_bc w) pc = .ok (.iushr, 1)) (hk : sk_S w (pc + 1) k) : sk_S w pc (o_iushr k) := by
  intro L st M h
  unfold o_iushr at h
  split at h
  next y x r => exact sk_stk (fun _ _ _ _ _ _ _ _ _ _ _ _ _ _ _ hC _ kk => lv_iushr hC.1 hC.2.1 hd rfl (by simpa only [List.map_cons, sk_val, sk_ushr, Int32.ofInt_toInt] using kk)) (hk _ _ _ h)
  next => exact h.elim
theorem sk_div (x y : Int) : Int32.ofInt x / Int32.ofInt y = Int32.ofInt (Int.tdiv (sk_w x) (sk_w y)) := by
  apply Int32.toInt_inj.mp
  rw [Int32.toInt_div, Int32.toInt_ofInt (n := Int.tdiv (sk_w x) (sk_w y))]
  rfl
theorem sk_ne0 {y : Int} (h : sk_w y ≠ 0) : ¬ Int32.ofInt y = 0 := fun e => h (by unfold sk_w; rw [e]; rfl)
def o_idiv (k : sk_K) : sk_K := fun L st M => match st with
  | .inl y :: .inl x :: r => sk_w y ≠ 0 ∧ k L (.inl (Int.tdiv (sk_w x) (sk_w y)) :: r) M
  | _ => False
theorem s_idiv (hd : decode (sk_bc w) pc = .ok (.idiv, 1)) (hk : sk_S w (pc + 1) k) : sk_S w pc (o_idiv k) := by
  intro L st M h
  unfold o_idiv at h
  split at h
  next y x r => exact sk_stk (fun _ _ _ _ _ _ _ _ _ _ _ _ _ _ _ hC _ kk => lv_idiv hC.1 hC.2.1 hd (sk_ne0 h.1) (by rw [sk_div]; exact kk)) (hk _ _ _ h.2)
  next => exact h.elim
theorem sk_rem (x y : Int) : Int32.ofInt x - Int32.ofInt x / Int32.ofInt y * Int32.ofInt y = Int32.ofInt (Int.tmod (sk_w x) (sk_w y)) := by
  rw [sk_div, ← sk_of_w x, ← sk_of_w y, ← Int32.ofInt_mul, ← Int32.ofInt_sub, Int.tmod_def, Int.mul_comm (sk_w y)]
def o_irem (k : sk_K) : sk_K := fun L st M => match st with
  | .inl y :: .inl x :: r => sk_w y ≠ 0 ∧ k L (.inl (Int.tmod (sk_w x) (sk_w y)) :: r) M
  | _ => False
theorem s_irem (hd : decode (sk_bc w) pc = .ok (.irem, 1)) (hk : sk_S w (pc + 1) k) : sk_S w pc (o_irem k) := by
  intro L st M h
  unfold o_irem at h
  split at h
  next y x r => exact sk_stk (fun _ _ _ _ _ _ _ _ _ _ _ _ _ _ _ hC _ kk => lv_irem hC.1 hC.2.1 hd (sk_ne0 h.1) (by rw [sk_rem]; exact kk)) (hk _ _ _ h.2)
  next => exact h.elim
/-! the stack -/
def sk_one : sk_V → Bool
  | .inr (.inl _) => false
  | _ => true
theorem sk_one_cat {v : sk_V} (h : sk_one v = true) : (sk_val v).category = 1 := by
  rcases v with x | x | r
  · rfl
  · simp [sk_one] at h
  · cases r <;> rfl
def o_dup (k : sk_K) : sk_K := fun L st M => match st with
  | a :: r => sk_one a = true ∧ k L (a :: a :: r) M
  | _ => False
theorem s_dup (hd : decode (sk_bc w) pc = .ok (.dup, 1)) (hk : sk_S w (pc + 1) k) : sk_S w pc (o_dup k) := by
  intro L st M h
  unfold o_dup at h
  split at h
  next a r => exact sk_stk (fun _ _ _ _ _ _ _ _ _ _ _ _ _ _ _ hC _ kk => lv_dup hC.1 hC.2.1 hd (sk_one_cat h.1) kk) (hk _ _ _ h.2)
  next => exact h.elim
def o_dup2 (k : sk_K) : sk_K := fun L st M => match st with
  | a :: b :: r => sk_one a = true ∧ sk_one b = true ∧ k L (a :: b :: a :: b :: r) M
  | _ => False
theorem s_dup2 (hd : decode (sk_bc w) pc = .ok (.dup2, 1)) (hk : sk_S w (pc + 1) k) : sk_S w pc (o_dup2 k) := by
  intro L st M h
  unfold o_dup2 at h
  split at h
  next a b r => exact sk_stk (fun _ _ _ _ _ _ _ _ _ _ _ _ _ _ _ hC _ kk => lv_dup2_11 hC.1 hC.2.1 hd (sk_one_cat h.1) (sk_one_cat h.2.1) kk) (hk _ _ _ h.2.2)
  next => exact h.elim
def o_pop (k : sk_K) : sk_K := fun L st M => match st with
  | a :: r => sk_one a = true ∧ k L r M
  | _ => False
theorem s_pop (hd : decode (sk_bc w) pc = .ok (.pop, 1)) (hk : sk_S w (pc + 1) k) : sk_S w pc (o_pop k) := by
  intro L st M h
  unfold o_pop at h
  split at h
  next a r => exact sk_stk (fun _ _ _ _ _ _ _ _ _ _ _ _ _ _ _ hC _ kk => lv_pop hC.1 hC.2.1 hd (sk_one_cat h.1) kk) (hk _ _ _ h.2)
  next => exact h.elim
end OPS
