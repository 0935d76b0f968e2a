/-! ===== branches ===== -/
theorem sk_eqI (x y : Int) : Int32.ofInt x = Int32.ofInt y ↔ sk_w x = sk_w y := Int32.toInt_inj.symm
theorem sk_ltI (x y : Int) : Int32.ofInt x < Int32.ofInt y ↔ sk_w x < sk_w y := Int32.lt_iff_toInt_lt
theorem sk_leI (x y : Int) : Int32.ofInt x ≤ Int32.ofInt y ↔ sk_w x ≤ sk_w y := Int32.le_iff_toInt_le
theorem sk_z : (0 : Int32) = Int32.ofInt 0 := rfl
theorem sk_w0 : sk_w 0 = 0 := sk_w_id (by omega) (by omega)
theorem sk_eq0 (x : Int) : Int32.ofInt x = 0 ↔ sk_w x = 0 := by rw [sk_z, sk_eqI, sk_w0]
theorem sk_lt0 (x : Int) : Int32.ofInt x < 0 ↔ sk_w x < 0 := by rw [sk_z, sk_ltI, sk_w0]
theorem sk_le0 (x : Int) : Int32.ofInt x ≤ 0 ↔ sk_w x ≤ 0 := by rw [sk_z, sk_leI, sk_w0]
theorem sk_0lt (x : Int) : 0 < Int32.ofInt x ↔ 0 < sk_w x := by rw [sk_z, sk_ltI, sk_w0]
theorem sk_0le (x : Int) : 0 ≤ Int32.ofInt x ↔ 0 ≤ sk_w x := by rw [sk_z, sk_leI, sk_w0]
/-- two ways on, both over the same values -/
theorem sk_two {w : sk_W} {pc p1 p2 : Nat} {L : List (Option sk_V)} {st st' : List sk_V} {M : sk_M} {A B : Prop}
    (hW : ∀ (p : Program) (e : Env) (s : State) (m : MethodId) (args : Array Value) (below : List Frame) (meth : Method) (c : Code) (H : Heap) (locs : List Loc) (cells slots : Nat) (R : Room) (Q : State → Prop) (ls : Array Slot),
      sk_Cx w.1 w.2.2.2.2.1 p s m meth c → (A → W p w.1.1 e R s m args below meth c H locs cells slots Q (F0 m p1 ls (st'.map sk_val))) → (B → W p w.1.1 e R s m args below meth c H locs cells slots Q (F0 m p2 ls (st'.map sk_val))) → W p w.1.1 e R s m args below meth c H locs cells slots Q (F0 m pc ls (st.map sk_val)))
    (ka : A → sk_B w p1 L st' M) (kb : B → sk_B w p2 L st' M) : sk_B w pc L st M := by
  intro p e s m args below meth c H locs cells slots mc ms ls hC h1 h2 hH hLo hl
  exact hW p e s m args below meth c H locs cells slots _ _ ls hC (fun a => ka a p e s m args below meth c H locs cells slots mc ms ls hC h1 h2 hH hLo hl) (fun b => kb b p e s m args below meth c H locs cells slots mc ms ls hC h1 h2 hH hLo hl)
section FLOW
variable {w : sk_W} {pc : Nat} {k k1 k2 : sk_K} {off : Int} {tgt : Nat}
theorem s_goto (hd : decode (sk_bc w) pc = .ok (.goto off, 3)) (ht : (pc : Int) + off = (tgt : Int)) (hk : sk_S w tgt k) : sk_S w pc k := fun _ _ _ h =>
  sk_stk (fun _ _ _ _ _ _ _ _ _ _ _ _ _ _ _ hC _ kk => lv_goto hC.1 hC.2.1 hd ht kk) (hk _ _ _ h)
def o_ifeq (k1 k2 : sk_K) : sk_K := fun L st M => match st with
  | .inl x :: r => (sk_w x = 0 → k1 L r M) ∧ (sk_w x ≠ 0 → k2 L r M)
  | _ => False
theorem s_ifeq (hd : decode (sk_bc w) pc = .ok (.ifCond .eq off, 3)) (ht : (pc : Int) + off = (tgt : Int)) (hk1 : sk_S w tgt k1) (hk2 : sk_S w (pc + 3) k2) : sk_S w pc (o_ifeq k1 k2) := by
  intro L st M h
  unfold o_ifeq at h
  split at h
  next x r =>
    refine sk_two (fun _ _ _ _ _ _ _ _ _ _ _ _ _ _ _ hC ka kb => lv_if_eq hC.1 hC.2.1 hd ht (fun hc => ka ?_) (fun hc => kb ?_)) (fun a => hk1 _ _ _ (h.1 a)) (fun b => hk2 _ _ _ (h.2 b))
    · simp only [sk_eq0, sk_lt0, sk_le0, sk_0lt, sk_0le, ne_eq] at hc ⊢
      omega
    · simp only [sk_eq0, sk_lt0, sk_le0, sk_0lt, sk_0le, ne_eq] at hc ⊢
      omega
  next => exact h.elim
def o_ifne (k1 k2 : sk_K) : sk_K := fun L st M => match st with
  | .inl x :: r => (sk_w x ≠ 0 → k1 L r M) ∧ (sk_w x = 0 → k2 L r M)
  | _ => False
theorem s_ifne (hd : decode (sk_bc w) pc = .ok (.ifCond .ne off, 3)) (ht : (pc : Int) + off = (tgt : Int)) (hk1 : sk_S w tgt k1) (hk2 : sk_S w (pc + 3) k2) : sk_S w pc (o_ifne k1 k2) := by
  intro L st M h
  unfold o_ifne at h
  split at h
  next x r =>
    refine sk_two (fun _ _ _ _ _ _ _ _ _ _ _ _ _ _ _ hC ka kb => lv_if_ne hC.1 hC.2.1 hd ht (fun hc => ka ?_) (fun hc => kb ?_)) (fun a => hk1 _ _ _ (h.1 a)) (fun b => hk2 _ _ _ (h.2 b))
    · simp only [sk_eq0, sk_lt0, sk_le0, sk_0lt, sk_0le, ne_eq] at hc ⊢
      omega
    · simp only [sk_eq0, sk_lt0, sk_le0, sk_0lt, sk_0le, ne_eq] at hc ⊢
      omega
  next => exact h.elim
def o_iflt (k1 k2 : sk_K) : sk_K := fun L st M => match st with
  | .inl x :: r => (sk_w x < 0 → k1 L r M) ∧ (0 ≤ sk_w x → k2 L r M)
  | _ => False
theorem s_iflt (hd : decode (sk_bc w) pc = .ok (.ifCond .lt off, 3)) (ht : (pc : Int) + off = (tgt : Int)) (hk1 : sk_S w tgt k1) (hk2 : sk_S w (pc + 3) k2) : sk_S w pc (o_iflt k1 k2) := by
  intro L st M h
  unfold o_iflt at h
  split at h
  next x r =>
    refine sk_two (fun _ _ _ _ _ _ _ _ _ _ _ _ _ _ _ hC ka kb => lv_if_lt hC.1 hC.2.1 hd ht (fun hc => ka ?_) (fun hc => kb ?_)) (fun a => hk1 _ _ _ (h.1 a)) (fun b => hk2 _ _ _ (h.2 b))
    · simp only [sk_eq0, sk_lt0, sk_le0, sk_0lt, sk_0le, ne_eq] at hc ⊢
      omega
    · simp only [sk_eq0, sk_lt0, sk_le0, sk_0lt, sk_0le, ne_eq] at hc ⊢
      omega
  next => exact h.elim
def o_ifge (k1 k2 : sk_K) : sk_K := fun L st M => match st with
  | .inl x :: r => (0 ≤ sk_w x → k1 L r M) ∧ (sk_w x < 0 → k2 L r M)
  | _ => False
theorem s_ifge (hd : decode (sk_bc w) pc = .ok (.ifCond .ge off, 3)) (ht : (pc : Int) + off = (tgt : Int)) (hk1 : sk_S w tgt k1) (hk2 : sk_S w (pc + 3) k2) : sk_S w pc (o_ifge k1 k2) := by
  intro L st M h
  unfold o_ifge at h
  split at h
  next x r =>
    refine sk_two (fun _ _ _ _ _ _ _ _ _ _ _ _ _ _ _ hC ka kb => lv_if_ge hC.1 hC.2.1 hd ht (fun hc => ka ?_) (fun hc => kb ?_)) (fun a => hk1 _ _ _ (h.1 a)) (fun b => hk2 _ _ _ (h.2 b))
    · simp only [sk_eq0, sk_lt0, sk_le0, sk_0lt, sk_0le, ne_eq] at hc ⊢
      omega
    · simp only [sk_eq0, sk_lt0, sk_le0, sk_0lt, sk_0le, ne_eq] at hc ⊢
      omega
  next => exact h.elim
def o_ifgt (k1 k2 : sk_K) : sk_K := fun L st M => match st with
  | .inl x :: r => (0 < sk_w x → k1 L r M) ∧ (sk_w x ≤ 0 → k2 L r M)
  | _ => False
theorem s_ifgt (hd : decode (sk_bc w) pc = .ok (.ifCond .gt off, 3)) (ht : (pc : Int) + off = (tgt : Int)) (hk1 : sk_S w tgt k1) (hk2 : sk_S w (pc + 3) k2) : sk_S w pc (o_ifgt k1 k2) := by
  intro L st M h
  unfold o_ifgt at h
  split at h
  next x r =>
    refine sk_two (fun _ _ _ _ _ _ _ _ _ _ _ _ _ _ _ hC ka kb => lv_if_gt hC.1 hC.2.1 hd ht (fun hc => ka ?_) (fun hc => kb ?_)) (fun a => hk1 _ _ _ (h.1 a)) (fun b => hk2 _ _ _ (h.2 b))
    · simp only [sk_eq0, sk_lt0, sk_le0, sk_0lt, sk_0le, ne_eq] at hc ⊢
      omega
    · simp only [sk_eq0, sk_lt0, sk_le0, sk_0lt, sk_0le, ne_eq] at hc ⊢
      omega
  next => exact h.elim
def o_ifle (k1 k2 : sk_K) : sk_K := fun L st M => match st with
  | .inl x :: r => (sk_w x ≤ 0 → k1 L r M) ∧ (0 < sk_w x → k2 L r M)
  | _ => False
theorem s_ifle (hd : decode (sk_bc w) pc = .ok (.ifCond .le off, 3)) (ht : (pc : Int) + off = (tgt : Int)) (hk1 : sk_S w tgt k1) (hk2 : sk_S w (pc + 3) k2) : sk_S w pc (o_ifle k1 k2) := by
  intro L st M h
  unfold o_ifle at h
  split at h
  next x r =>
    refine sk_two (fun _ _ _ _ _ _ _ _ _ _ _ _ _ _ _ hC ka kb => lv_if_le hC.1 hC.2.1 hd ht (fun hc => ka ?_) (fun hc => kb ?_)) (fun a => hk1 _ _ _ (h.1 a)) (fun b => hk2 _ _ _ (h.2 b))
    · simp only [sk_eq0, sk_lt0, sk_le0, sk_0lt, sk_0le, ne_eq] at hc ⊢
      omega
    · simp only [sk_eq0, sk_lt0, sk_le0, sk_0lt, sk_0le, ne_eq] at hc ⊢
      omega
  next => exact h.elim
def o_iceq (k1 k2 : sk_K) : sk_K := fun L st M => match st with
  | .inl y :: .inl x :: r => (sk_w x = sk_w y → k1 L r M) ∧ (sk_w x ≠ sk_w y → k2 L r M)
  | _ => False
theorem s_iceq (hd : decode (sk_bc w) pc = .ok (.if_icmp .eq off, 3)) (ht : (pc : Int) + off = (tgt : Int)) (hk1 : sk_S w tgt k1) (hk2 : sk_S w (pc + 3) k2) : sk_S w pc (o_iceq k1 k2) := by
  intro L st M h
  unfold o_iceq at h
  split at h
  next y x r =>
    refine sk_two (fun _ _ _ _ _ _ _ _ _ _ _ _ _ _ _ hC ka kb => lv_icmp_eq hC.1 hC.2.1 hd ht (fun hc => ka ?_) (fun hc => kb ?_)) (fun a => hk1 _ _ _ (h.1 a)) (fun b => hk2 _ _ _ (h.2 b))
    · simp only [sk_eqI, sk_ltI, sk_leI, ne_eq] at hc ⊢
      omega
    · simp only [sk_eqI, sk_ltI, sk_leI, ne_eq] at hc ⊢
      omega
  next => exact h.elim
def o_icne (k1 k2 : sk_K) : sk_K := fun L st M => match st with
  | .inl y :: .inl x :: r => (sk_w x ≠ sk_w y → k1 L r M) ∧ (sk_w x = sk_w y → k2 L r M)
  | _ => False
theorem s_icne (hd : decode (sk_bc w) pc = .ok (.if_icmp .ne off, 3)) (ht : (pc : Int) + off = (tgt : Int)) (hk1 : sk_S w tgt k1) (hk2 : sk_S w (pc + 3) k2) : sk_S w pc (o_icne k1 k2) := by
  intro L st M h
  unfold o_icne at h
  split at h
  next y x r =>
    refine sk_two (fun _ _ _ _ _ _ _ _ _ _ _ _ _ _ _ hC ka kb => lv_icmp_ne hC.1 hC.2.1 hd ht (fun hc => ka ?_) (fun hc => kb ?_)) (fun a => hk1 _ _ _ (h.1 a)) (fun b => hk2 _ _ _ (h.2 b))
    · simp only [sk_eqI, sk_ltI, sk_leI, ne_eq] at hc ⊢
      omega
    · simp only [sk_eqI, sk_ltI, sk_leI, ne_eq] at hc ⊢
      omega
  next => exact h.elim
def o_iclt (k1 k2 : sk_K) : sk_K := fun L st M => match st with
  | .inl y :: .inl x :: r => (sk_w x < sk_w y → k1 L r M) ∧ (sk_w y ≤ sk_w x → k2 L r M)
  | _ => False
theorem s_iclt (hd : decode (sk_bc w) pc = .ok (.if_icmp .lt off, 3)) (ht : (pc : Int) + off = (tgt : Int)) (hk1 : sk_S w tgt k1) (hk2 : sk_S w (pc + 3) k2) : sk_S w pc (o_iclt k1 k2) := by
  intro L st M h
  unfold o_iclt at h
  split at h
  next y x r =>
    refine sk_two (fun _ _ _ _ _ _ _ _ _ _ _ _ _ _ _ hC ka kb => lv_icmp_lt hC.1 hC.2.1 hd ht (fun hc => ka ?_) (fun hc => kb ?_)) (fun a => hk1 _ _ _ (h.1 a)) (fun b => hk2 _ _ _ (h.2 b))
    · simp only [sk_eqI, sk_ltI, sk_leI, ne_eq] at hc ⊢
      omega
    · simp only [sk_eqI, sk_ltI, sk_leI, ne_eq] at hc ⊢
      omega
  next => exact h.elim
def o_icge (k1 k2 : sk_K) : sk_K := fun L st M => match st with
  | .inl y :: .inl x :: r => (sk_w y ≤ sk_w x → k1 L r M) ∧ (sk_w x < sk_w y → k2 L r M)
  | _ => False
theorem s_icge (hd : decode (sk_bc w) pc = .ok (.if_icmp .ge off, 3)) (ht : (pc : Int) + off = (tgt : Int)) (hk1 : sk_S w tgt k1) (hk2 : sk_S w (pc + 3) k2) : sk_S w pc (o_icge k1 k2) := by
  intro L st M h
  unfold o_icge at h
  split at h
  next y x r =>
    refine sk_two (fun _ _ _ _ _ _ _ _ _ _ _ _ _ _ _ hC ka kb => lv_icmp_ge hC.1 hC.2.1 hd ht (fun hc => ka ?_) (fun hc => kb ?_)) (fun a => hk1 _ _ _ (h.1 a)) (fun b => hk2 _ _ _ (h.2 b))
    · simp only [sk_eqI, sk_ltI, sk_leI, ne_eq] at hc ⊢
      omega
    · simp only [sk_eqI, sk_ltI, sk_leI, ne_eq] at hc ⊢
      omega
  next => exact h.elim
def o_icgt (k1 k2 : sk_K) : sk_K := fun L st M => match st with
  | .inl y :: .inl x :: r => (sk_w y < sk_w x → k1 L r M) ∧ (sk_w x ≤ sk_w y → k2 L r M)
  | _ => False
theorem s_icgt (hd : decode (sk_bc w) pc = .ok (.if_icmp .gt off, 3)) (ht : (pc : Int) + off = (tgt : Int)) (hk1 : sk_S w tgt k1) (hk2 : sk_S w (pc + 3) k2) : sk_S w pc (o_icgt k1 k2) := by
  intro L st M h
  unfold o_icgt at h
  split at h
  next y x r =>
    refine sk_two (fun _ _ _ _ _ _ _ _ _ _ _ _ _ _ _ hC ka kb => lv_icmp_gt hC.1 hC.2.1 hd ht (fun hc => ka ?_) (fun hc => kb ?_)) (fun a => hk1 _ _ _ (h.1 a)) (fun b => hk2 _ _ _ (h.2 b))
    · simp only [sk_eqI, sk_ltI, sk_leI, ne_eq] at hc ⊢
      omega
    · simp only [sk_eqI, sk_ltI, sk_leI, ne_eq] at hc ⊢
      omega
  next => exact h.elim
def o_icle (k1 k2 : sk_K) : sk_K := fun L st M => match st with
  | .inl y :: .inl x :: r => (sk_w x ≤ sk_w y → k1 L r M) ∧ (sk_w y < sk_w x → k2 L r M)
  | _ => False
theorem s_icle (hd : decode (sk_bc w) pc = .ok (.if_icmp .le off, 3)) (ht : (pc : Int) + off = (tgt : Int)) (hk1 : sk_S w tgt k1) (hk2 : sk_S w (pc + 3) k2) : sk_S w pc (o_icle k1 k2) := by
  intro L st M h
  unfold o_icle at h
  split at h
  next y x r =>
    refine sk_two (fun _ _ _ _ _ _ _ _ _ _ _ _ _ _ _ hC ka kb => lv_icmp_le hC.1 hC.2.1 hd ht (fun hc => ka ?_) (fun hc => kb ?_)) (fun a => hk1 _ _ _ (h.1 a)) (fun b => hk2 _ _ _ (h.2 b))
    · simp only [sk_eqI, sk_ltI, sk_leI, ne_eq] at hc ⊢
      omega
    · simp only [sk_eqI, sk_ltI, sk_leI, ne_eq] at hc ⊢
      omega
  next => exact h.elim
def o_ifnull (k1 k2 : sk_K) : sk_K := fun L st M => match st with
  | .inr (.inr none) :: r => k1 L r M
  | .inr (.inr (some _)) :: r => k2 L r M
  | _ => False
theorem s_ifnull (hd : decode (sk_bc w) pc = .ok (.ifnull off, 3)) (ht : (pc : Int) + off = (tgt : Int)) (hk1 : sk_S w tgt k1) (hk2 : sk_S w (pc + 3) k2) : sk_S w pc (o_ifnull k1 k2) := by
  intro L st M h
  unfold o_ifnull at h
  split at h
  next r => exact sk_stk (fun _ _ _ _ _ _ _ _ _ _ _ _ _ _ _ hC _ kk => lv_ifnullN hC.1 hC.2.1 hd ht kk) (hk1 _ _ _ h)
  next a r => exact sk_stk (fun _ _ _ _ _ _ _ _ _ _ _ _ _ _ _ hC _ kk => lv_ifnull hC.1 hC.2.1 hd kk) (hk2 _ _ _ h)
  next => exact h.elim
theorem s_ifnonnull (hd : decode (sk_bc w) pc = .ok (.ifnonnull off, 3)) (ht : (pc : Int) + off = (tgt : Int)) (hk1 : sk_S w tgt k1) (hk2 : sk_S w (pc + 3) k2) : sk_S w pc (o_ifnull k2 k1) := by
  intro L st M h
  unfold o_ifnull at h
  split at h
  next r => exact sk_stk (fun _ _ _ _ _ _ _ _ _ _ _ _ _ _ _ hC _ kk => lv_ifnonnullN hC.1 hC.2.1 hd kk) (hk2 _ _ _ h)
  next a r => exact sk_stk (fun _ _ _ _ _ _ _ _ _ _ _ _ _ _ _ hC _ kk => lv_ifnonnull hC.1 hC.2.1 hd ht kk) (hk1 _ _ _ h)
  next => exact h.elim
/-! ===== ends ===== -/
def o_ret (w : sk_W) : sk_K := fun _ st M => match st with
  | [] => w.2.2.2.2.2 none M
  | _ => False
def o_iret (w : sk_W) : sk_K := fun _ st M => match st with
  | [.inl x] => w.2.2.2.2.2 (some (.inl x)) M
  | _ => False
def o_zret (w : sk_W) : sk_K := fun _ st M => match st with
  | [.inl x] => (x = 0 ∨ x = 1) ∧ w.2.2.2.2.2 (some (.inl x)) M
  | _ => False
def o_lret (w : sk_W) : sk_K := fun _ st M => match st with
  | [.inr (.inl x)] => w.2.2.2.2.2 (some (.inr (.inl x))) M
  | _ => False
def o_aret (w : sk_W) : sk_K := fun _ st M => match st with
  | [.inr (.inr x)] => w.2.2.2.2.2 (some (.inr (.inr x))) M
  | _ => False
theorem s_ret (hd : decode (sk_bc w) pc = .ok (.return_, 1)) (hr : w.2.2.2.2.1.2.2.2 = none) : sk_S w pc (o_ret w) := by
  intro L st M h
  unfold o_ret at h
  split at h
  next =>
    intro p e s m args below meth c H locs cells slots mc ms ls hC h1 h2 hH hLo hl
    refine W.widen (k := mc) (n := ms) (by omega) (by omega) ?_
    exact W.vret hC.1 hC.2.1 (hC.2.2.1.trans hr) (fun t ht hW => ⟨none, M, rfl, by rw [ht]; exact hH, State.WarmedH.trans hC.2.2.2.2.2.2.2.1 hW, h⟩) hLo hd hC.2.2.2.2.1
  next => exact h.elim
theorem s_iret (hd : decode (sk_bc w) pc = .ok (.ireturn, 1)) (hr : w.2.2.2.2.1.2.2.2 = some .int) : sk_S w pc (o_iret w) := by
  intro L st M h
  unfold o_iret at h
  split at h
  next x =>
    intro p e s m args below meth c H locs cells slots mc ms ls hC h1 h2 hH hLo hl
    refine W.widen (k := mc) (n := ms) (by omega) (by omega) ?_
    exact W.iret hC.1 hC.2.1 (hC.2.2.1.trans hr) (fun t ht hW => ⟨some (.inl x), M, rfl, by rw [ht]; exact hH, State.WarmedH.trans hC.2.2.2.2.2.2.2.1 hW, h⟩) hLo hd hC.2.2.2.2.1
  next => exact h.elim
theorem s_zret (hd : decode (sk_bc w) pc = .ok (.ireturn, 1)) (hr : w.2.2.2.2.1.2.2.2 = some .boolean) : sk_S w pc (o_zret w) := by
  intro L st M h
  unfold o_zret at h
  split at h
  next x =>
    intro p e s m args below meth c H locs cells slots mc ms ls hC h1 h2 hH hLo hl
    refine W.widen (k := mc) (n := ms) (by omega) (by omega) ?_
    exact W.zret (ty := .boolean) hC.1 hC.2.1 (hC.2.2.1.trans hr) (by rcases h.1 with rfl | rfl <;> rfl) (fun t ht hW => ⟨some (.inl x), M, rfl, by rw [ht]; exact hH, State.WarmedH.trans hC.2.2.2.2.2.2.2.1 hW, h.2⟩) hLo hd hC.2.2.2.2.1
  next => exact h.elim
theorem s_lret (hd : decode (sk_bc w) pc = .ok (.lreturn, 1)) (hr : w.2.2.2.2.1.2.2.2 = some .long) : sk_S w pc (o_lret w) := by
  intro L st M h
  unfold o_lret at h
  split at h
  next x =>
    intro p e s m args below meth c H locs cells slots mc ms ls hC h1 h2 hH hLo hl
    refine W.widen (k := mc) (n := ms) (by omega) (by omega) ?_
    exact W.lret hC.1 hC.2.1 (hC.2.2.1.trans hr) (fun t ht hW => ⟨some (.inr (.inl x)), M, rfl, by rw [ht]; exact hH, State.WarmedH.trans hC.2.2.2.2.2.2.2.1 hW, h⟩) hLo hd hC.2.2.2.2.1
  next => exact h.elim
theorem s_aret {n : String} (hd : decode (sk_bc w) pc = .ok (.areturn, 1)) (hr : w.2.2.2.2.1.2.2.2 = some (.object n)) : sk_S w pc (o_aret w) := by
  intro L st M h
  unfold o_aret at h
  split at h
  next x =>
    intro p e s m args below meth c H locs cells slots mc ms ls hC h1 h2 hH hLo hl
    refine W.widen (k := mc) (n := ms) (by omega) (by omega) ?_
    exact W.aret (v := va_rf x) hC.1 hC.2.1 (hC.2.2.1.trans hr) (Or.inl ⟨n, rfl⟩) (by cases x with | none => exact Or.inl rfl | some a => exact Or.inr ⟨a, rfl⟩) (fun t ht hW => ⟨some (.inr (.inr x)), M, rfl, by rw [ht]; exact hH, State.WarmedH.trans hC.2.2.2.2.2.2.2.1 hW, h⟩) hLo hd hC.2.2.2.2.1
  next => exact h.elim
end FLOW
