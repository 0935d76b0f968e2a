/-! ===== stores into fields, by their types ===== -/
section PUTS
variable {w : sk_W} {pc : Nat} {k : sk_K} {ci j index N : Nat} {C host : String} {T : u_T} {ty : FieldType}
theorem sk_narI (x : Int) : narrow .int (sk_val (.inl x)) = sk_val (.inl x) ∧ fits .int (sk_val (.inl x)) = true := ⟨rfl, rfl⟩
theorem sk_narZ {x : Int} (h : x = 0 ∨ x = 1) : narrow .boolean (sk_val (.inl x)) = sk_val (.inl x) ∧ fits .boolean (sk_val (.inl x)) = true := by rcases h with rfl | rfl <;> exact ⟨rfl, rfl⟩
theorem sk_narL (x : Int) : narrow .long (sk_val (.inr (.inl x))) = sk_val (.inr (.inl x)) ∧ fits .long (sk_val (.inr (.inl x))) = true := ⟨rfl, rfl⟩
theorem sk_narA (hr : (∃ n, ty = .object n) ∨ ∃ t, ty = .array t) (x : Option Nat) : narrow ty (sk_val (.inr (.inr x))) = sk_val (.inr (.inr x)) ∧ fits ty (sk_val (.inr (.inr x))) = true := by
  rcases hr with ⟨n, rfl⟩ | ⟨t, rfl⟩ <;> cases x <;> exact ⟨rfl, rfl⟩
theorem s_puti (hd : decode (sk_bc w) pc = .ok (.putfield index, 3)) (hc : vwCl[ci]? = some (C, T, N)) (hj : j < N) (hci : ci < 20) (hfin : (T j).2.2.2 = false) (hty : parseFieldDescriptor (T j).2.2.1 = some .int) (hl : Cond.fieldLink w.2.2.2.2.1.1.cls index (T j).1 (T j).2.1 (T j).2.2.1 ∈ lw_tbl) (hk : sk_S w (pc + 3) k) : sk_S w pc (o_puti ci j k) := by
  intro L st M h
  unfold o_puti at h
  split at h
  next x a r => exact sk_putf hd hc hj hci hfin hty (sk_narI x).1 (sk_narI x).2 hl h.1 (hk _ _ _ h.2)
  next => exact h.elim
theorem s_putz (hd : decode (sk_bc w) pc = .ok (.putfield index, 3)) (hc : vwCl[ci]? = some (C, T, N)) (hj : j < N) (hci : ci < 20) (hfin : (T j).2.2.2 = false) (hty : parseFieldDescriptor (T j).2.2.1 = some .boolean) (hl : Cond.fieldLink w.2.2.2.2.1.1.cls index (T j).1 (T j).2.1 (T j).2.2.1 ∈ lw_tbl) (hk : sk_S w (pc + 3) k) : sk_S w pc (o_putz ci j k) := by
  intro L st M h
  unfold o_putz at h
  split at h
  next x a r => exact sk_putf hd hc hj hci hfin hty (sk_narZ h.2.1).1 (sk_narZ h.2.1).2 hl h.1 (hk _ _ _ h.2.2)
  next => exact h.elim
theorem s_putl (hd : decode (sk_bc w) pc = .ok (.putfield index, 3)) (hc : vwCl[ci]? = some (C, T, N)) (hj : j < N) (hci : ci < 20) (hfin : (T j).2.2.2 = false) (hty : parseFieldDescriptor (T j).2.2.1 = some .long) (hl : Cond.fieldLink w.2.2.2.2.1.1.cls index (T j).1 (T j).2.1 (T j).2.2.1 ∈ lw_tbl) (hk : sk_S w (pc + 3) k) : sk_S w pc (o_putl ci j k) := by
  intro L st M h
  unfold o_putl at h
  split at h
  next x a r => exact sk_putf hd hc hj hci hfin hty (sk_narL x).1 (sk_narL x).2 hl h.1 (hk _ _ _ h.2)
  next => exact h.elim
theorem s_puta (hd : decode (sk_bc w) pc = .ok (.putfield index, 3)) (hc : vwCl[ci]? = some (C, T, N)) (hj : j < N) (hci : ci < 20) (hfin : (T j).2.2.2 = false) (hr : (∃ n, ty = .object n) ∨ ∃ t, ty = .array t) (hty : parseFieldDescriptor (T j).2.2.1 = some ty) (hl : Cond.fieldLink w.2.2.2.2.1.1.cls index (T j).1 (T j).2.1 (T j).2.2.1 ∈ lw_tbl) (hk : sk_S w (pc + 3) k) : sk_S w pc (o_puta ci j k) := by
  intro L st M h
  unfold o_puta at h
  split at h
  next x a r => exact sk_putf hd hc hj hci hfin hty (sk_narA hr x).1 (sk_narA hr x).2 hl h.1 (hk _ _ _ h.2)
  next => exact h.elim
theorem s_putiN (hd : decode (sk_bc w) pc = .ok (.putfield index, 3)) (hc : vwCl[ci]? = some (C, T, N)) (hj : j < N) (hci : ci < 20) (hfin : (T j).2.2.2 = false) (hty : parseFieldDescriptor (T j).2.2.1 = some .int) (hl : Cond.fieldLinkNest w.2.2.2.2.1.1.cls index (T j).1 (T j).2.1 (T j).2.2.1 host ∈ lw_tbl) (hk : sk_S w (pc + 3) k) : sk_S w pc (o_puti ci j k) := by
  intro L st M h
  unfold o_puti at h
  split at h
  next x a r => exact sk_putfN hd hc hj hci hfin hty (sk_narI x).1 (sk_narI x).2 hl h.1 (hk _ _ _ h.2)
  next => exact h.elim
theorem s_putzN (hd : decode (sk_bc w) pc = .ok (.putfield index, 3)) (hc : vwCl[ci]? = some (C, T, N)) (hj : j < N) (hci : ci < 20) (hfin : (T j).2.2.2 = false) (hty : parseFieldDescriptor (T j).2.2.1 = some .boolean) (hl : Cond.fieldLinkNest w.2.2.2.2.1.1.cls index (T j).1 (T j).2.1 (T j).2.2.1 host ∈ lw_tbl) (hk : sk_S w (pc + 3) k) : sk_S w pc (o_putz ci j k) := by
  intro L st M h
  unfold o_putz at h
  split at h
  next x a r => exact sk_putfN hd hc hj hci hfin hty (sk_narZ h.2.1).1 (sk_narZ h.2.1).2 hl h.1 (hk _ _ _ h.2.2)
  next => exact h.elim
theorem s_putlN (hd : decode (sk_bc w) pc = .ok (.putfield index, 3)) (hc : vwCl[ci]? = some (C, T, N)) (hj : j < N) (hci : ci < 20) (hfin : (T j).2.2.2 = false) (hty : parseFieldDescriptor (T j).2.2.1 = some .long) (hl : Cond.fieldLinkNest w.2.2.2.2.1.1.cls index (T j).1 (T j).2.1 (T j).2.2.1 host ∈ lw_tbl) (hk : sk_S w (pc + 3) k) : sk_S w pc (o_putl ci j k) := by
  intro L st M h
  unfold o_putl at h
  split at h
  next x a r => exact sk_putfN hd hc hj hci hfin hty (sk_narL x).1 (sk_narL x).2 hl h.1 (hk _ _ _ h.2)
  next => exact h.elim
theorem s_putaN (hd : decode (sk_bc w) pc = .ok (.putfield index, 3)) (hc : vwCl[ci]? = some (C, T, N)) (hj : j < N) (hci : ci < 20) (hfin : (T j).2.2.2 = false) (hr : (∃ n, ty = .object n) ∨ ∃ t, ty = .array t) (hty : parseFieldDescriptor (T j).2.2.1 = some ty) (hl : Cond.fieldLinkNest w.2.2.2.2.1.1.cls index (T j).1 (T j).2.1 (T j).2.2.1 host ∈ lw_tbl) (hk : sk_S w (pc + 3) k) : sk_S w pc (o_puta ci j k) := by
  intro L st M h
  unfold o_puta at h
  split at h
  next x a r => exact sk_putfN hd hc hj hci hfin hty (sk_narA hr x).1 (sk_narA hr x).2 hl h.1 (hk _ _ _ h.2)
  next => exact h.elim
theorem s_putiF (hd : decode (sk_bc w) pc = .ok (.putfield index, 3)) (hc : vwCl[ci]? = some (C, T, N)) (hj : j < N) (hci : ci < 20) (hfin : (T j).2.2.2 = true) (hin2 : w.2.2.2.2.1.1.name = "<init>") (hdecl : (T j).1 = w.2.2.2.2.1.1.cls) (hty : parseFieldDescriptor (T j).2.2.1 = some .int) (hl : Cond.fieldLink w.2.2.2.2.1.1.cls index (T j).1 (T j).2.1 (T j).2.2.1 ∈ lw_tbl) (hk : sk_S w (pc + 3) k) : sk_S w pc (o_puti ci j k) := by
  intro L st M h
  unfold o_puti at h
  split at h
  next x a r => exact sk_putfF hd hc hj hci hfin hin2 hdecl hty (sk_narI x).1 (sk_narI x).2 hl h.1 (hk _ _ _ h.2)
  next => exact h.elim
theorem s_putzF (hd : decode (sk_bc w) pc = .ok (.putfield index, 3)) (hc : vwCl[ci]? = some (C, T, N)) (hj : j < N) (hci : ci < 20) (hfin : (T j).2.2.2 = true) (hin2 : w.2.2.2.2.1.1.name = "<init>") (hdecl : (T j).1 = w.2.2.2.2.1.1.cls) (hty : parseFieldDescriptor (T j).2.2.1 = some .boolean) (hl : Cond.fieldLink w.2.2.2.2.1.1.cls index (T j).1 (T j).2.1 (T j).2.2.1 ∈ lw_tbl) (hk : sk_S w (pc + 3) k) : sk_S w pc (o_putz ci j k) := by
  intro L st M h
  unfold o_putz at h
  split at h
  next x a r => exact sk_putfF hd hc hj hci hfin hin2 hdecl hty (sk_narZ h.2.1).1 (sk_narZ h.2.1).2 hl h.1 (hk _ _ _ h.2.2)
  next => exact h.elim
theorem s_putlF (hd : decode (sk_bc w) pc = .ok (.putfield index, 3)) (hc : vwCl[ci]? = some (C, T, N)) (hj : j < N) (hci : ci < 20) (hfin : (T j).2.2.2 = true) (hin2 : w.2.2.2.2.1.1.name = "<init>") (hdecl : (T j).1 = w.2.2.2.2.1.1.cls) (hty : parseFieldDescriptor (T j).2.2.1 = some .long) (hl : Cond.fieldLink w.2.2.2.2.1.1.cls index (T j).1 (T j).2.1 (T j).2.2.1 ∈ lw_tbl) (hk : sk_S w (pc + 3) k) : sk_S w pc (o_putl ci j k) := by
  intro L st M h
  unfold o_putl at h
  split at h
  next x a r => exact sk_putfF hd hc hj hci hfin hin2 hdecl hty (sk_narL x).1 (sk_narL x).2 hl h.1 (hk _ _ _ h.2)
  next => exact h.elim
theorem s_putaF (hd : decode (sk_bc w) pc = .ok (.putfield index, 3)) (hc : vwCl[ci]? = some (C, T, N)) (hj : j < N) (hci : ci < 20) (hfin : (T j).2.2.2 = true) (hin2 : w.2.2.2.2.1.1.name = "<init>") (hdecl : (T j).1 = w.2.2.2.2.1.1.cls) (hr : (∃ n, ty = .object n) ∨ ∃ t, ty = .array t) (hty : parseFieldDescriptor (T j).2.2.1 = some ty) (hl : Cond.fieldLink w.2.2.2.2.1.1.cls index (T j).1 (T j).2.1 (T j).2.2.1 ∈ lw_tbl) (hk : sk_S w (pc + 3) k) : sk_S w pc (o_puta ci j k) := by
  intro L st M h
  unfold o_puta at h
  split at h
  next x a r => exact sk_putfF hd hc hj hci hfin hin2 hdecl hty (sk_narA hr x).1 (sk_narA hr x).2 hl h.1 (hk _ _ _ h.2)
  next => exact h.elim
end PUTS
/-! ===== arrays ===== -/
theorem sk_in {i : Int} {n : Nat} (h0 : 0 ≤ sk_w i) (h1 : sk_w i < n) : ¬ (Int32.ofInt i < 0 ∨ n ≤ (Int32.ofInt i).toNatClampNeg) := by
  rw [sk_lt0, ← Int32.toNat_toInt]
  show ¬ (sk_w i < 0 ∨ n ≤ (sk_w i).toNat)
  omega
theorem sk_ix (i : Int) : (Int32.ofInt i).toNatClampNeg = (sk_w i).toNat := by rw [← Int32.toNat_toInt]; rfl
theorem sk_arr {g : sk_G} {M : sk_M} {H : Heap} {a : Nat} (hH : sk_H g M H) (h1 : 20 ≤ (M.2 a).1) (h2 : (M.2 a).1 < 30) : H[a]? = some (arrV (g.2.2.2.1 (M.2 a).1) (M.2 a).2.1 (fun j => sk_val ((M.2 a).2.2 j))) ∧ sk_base g ≤ a := by
  obtain ⟨⟨-, h3, -⟩, h4⟩ := hH.2.2.2 a (by omega)
  exact ⟨h3 h1 h2, h4 h2⟩
theorem sk_arrT {g : sk_G} {s : State} (hg : sk_ok g) (hW : g.2.1.WarmedH s.vm) {q : Nat} (h1 : 20 ≤ q) (h2 : q < 26) : ArrOfT s (g.2.2.2.1 q) (sk_ty q) ∧ va_RA s (g.2.2.2.1 q) (sk_ty q) := by
  obtain ⟨-, h, -⟩ := hg
  exact ⟨arrOfT_moved hW.alike (h q h1 h2).1, (h q h1 h2).2.moved hW.alike⟩
/-- an array that is only read -/
theorem sk_old {g : sk_G} {s : State} {M : sk_M} {H : Heap} {a : Nat} (hH : sk_H g M H) (hW : g.2.1.WarmedH s.vm) (h1 : 30 ≤ (M.2 a).1) (h2 : (M.2 a).1 < 40) : ∃ cell : Cell, H[a]? = some cell ∧ s.isArrayOf cell .int ∧ cell.vm ≠ .unknown ∧ cell.slots.size = (M.2 a).2.1 ∧ (M.2 a).2.1 < 2 ^ 31 ∧ ∀ j : Nat, j < (M.2 a).2.1 → cell.slots[j]? = some (sk_val ((M.2 a).2.2 j)) := by
  obtain ⟨⟨-, -, h3⟩, -⟩ := hH.2.2.2 a (by omega)
  obtain ⟨cell, e1, e2, e3⟩ := h3 h1 h2
  exact ⟨cell, e1, State.isArrayOf_alike hW.alike e2, e3⟩
/-- an int array, new or old -/
def sk_isI (n : Nat) : Bool := n == 20 || n == 30
def o_iaload (k : sk_K) : sk_K := fun L st M => match st with
  | .inl i :: .inr (.inr (some a)) :: r => sk_isI (M.2 a).1 = true ∧ 0 ≤ sk_w i ∧ sk_w i < (M.2 a).2.1 ∧ k L ((M.2 a).2.2 (sk_w i).toNat :: r) M
  | _ => False
def o_iastore (k : sk_K) : sk_K := fun L st M => match st with
  | .inl x :: .inl i :: .inr (.inr (some a)) :: r => (M.2 a).1 = 20 ∧ 0 ≤ sk_w i ∧ sk_w i < (M.2 a).2.1 ∧ k L r (M.1, va_up M.2 a (20, (M.2 a).2.1, va_up (M.2 a).2.2 (sk_w i).toNat (.inl x)))
  | _ => False
def o_alen (k : sk_K) : sk_K := fun L st M => match st with
  | .inr (.inr (some a)) :: r => sk_isI (M.2 a).1 = true ∧ k L (.inl (M.2 a).2.1 :: r) M
  | _ => False
def o_baload (k : sk_K) : sk_K := fun L st M => match st with
  | .inl i :: .inr (.inr (some a)) :: r => (M.2 a).1 = 21 ∧ 0 ≤ sk_w i ∧ sk_w i < (M.2 a).2.1 ∧ k L ((M.2 a).2.2 (sk_w i).toNat :: r) M
  | _ => False
def o_bastore (k : sk_K) : sk_K := fun L st M => match st with
  | .inl x :: .inl i :: .inr (.inr (some a)) :: r => (M.2 a).1 = 21 ∧ (x = 0 ∨ x = 1) ∧ 0 ≤ sk_w i ∧ sk_w i < (M.2 a).2.1 ∧ k L r (M.1, va_up M.2 a (21, (M.2 a).2.1, va_up (M.2 a).2.2 (sk_w i).toNat (.inl x)))
  | _ => False
def o_laload (k : sk_K) : sk_K := fun L st M => match st with
  | .inl i :: .inr (.inr (some a)) :: r => (M.2 a).1 = 22 ∧ 0 ≤ sk_w i ∧ sk_w i < (M.2 a).2.1 ∧ k L ((M.2 a).2.2 (sk_w i).toNat :: r) M
  | _ => False
def o_lastore (k : sk_K) : sk_K := fun L st M => match st with
  | .inr (.inl x) :: .inl i :: .inr (.inr (some a)) :: r => (M.2 a).1 = 22 ∧ 0 ≤ sk_w i ∧ sk_w i < (M.2 a).2.1 ∧ k L r (M.1, va_up M.2 a (22, (M.2 a).2.1, va_up (M.2 a).2.2 (sk_w i).toNat (.inr (.inl x))))
  | _ => False
def o_aaload (k : sk_K) : sk_K := fun L st M => match st with
  | .inl i :: .inr (.inr (some a)) :: r => 23 ≤ (M.2 a).1 ∧ (M.2 a).1 < 26 ∧ 0 ≤ sk_w i ∧ sk_w i < (M.2 a).2.1 ∧ k L ((M.2 a).2.2 (sk_w i).toNat :: r) M
  | _ => False
/-- which kind of object an array of references takes -/
def sk_el : Nat → Nat
  | 23 => 5
  | 24 => 1
  | _ => 10
def o_aastore (k : sk_K) : sk_K := fun L st M => match st with
  | .inr (.inr (some v)) :: .inl i :: .inr (.inr (some a)) :: r => 23 ≤ (M.2 a).1 ∧ (M.2 a).1 < 26 ∧ (M.2 v).1 = sk_el (M.2 a).1 ∧ 0 ≤ sk_w i ∧ sk_w i < (M.2 a).2.1 ∧ k L r (M.1, va_up M.2 a ((M.2 a).1, (M.2 a).2.1, va_up (M.2 a).2.2 (sk_w i).toNat (.inr (.inr (some v)))))
  | _ => False
section ARR
variable {w : sk_W} {pc : Nat} {k : sk_K}
theorem s_iaload (hd : decode (sk_bc w) pc = .ok (.iaload, 1)) (hk : sk_S w (pc + 1) k) : sk_S w pc (o_iaload k) := by
  intro L st M h
  unfold o_iaload at h
  split at h
  next i a r =>
    obtain ⟨ha, h0, h1, h⟩ := h
    intro p e s m args below meth c H locs cells slots mc ms ls hC g1 g2 hH hLo hl'
    have hkk := hk _ _ _ h p e s m args below meth c H locs cells slots mc ms ls hC g1 g2 hH hLo hl'
    obtain ⟨hx, hb, -, -, -, hown, -, hW, hg⟩ := hC
    have hi := sk_in h0 h1
    have hlt : (sk_w i).toNat < (M.2 a).2.1 := by omega
    simp only [sk_isI, Bool.or_eq_true, beq_iff_eq] at ha
    rcases ha with ha | ha
    · have hc := (sk_arr hH (a := a) (by omega) (by omega)).1
      have ht := (sk_arrT hg hW (q := (M.2 a).1) (by omega) (by omega)).1
      rw [ha] at ht hc
      refine W.iald (v := sk_val ((M.2 a).2.2 (sk_w i).toNat)) hx hb hc (ht _ _) (fun q => by cases q) (by rw [arrV_size]; exact hi) (by rw [sk_ix, arrV_read _ _ hlt]) rfl rfl hd hkk
    · obtain ⟨cell, e1, e2, e3, e4, -, e5⟩ := sk_old hH hW (a := a) (by omega) (by omega)
      exact W.iald (v := sk_val ((M.2 a).2.2 (sk_w i).toNat)) hx hb e1 e2 e3 (by rw [e4]; exact hi) (by rw [sk_ix]; exact e5 _ hlt) rfl rfl hd hkk
  next => exact h.elim
theorem s_alen (hd : decode (sk_bc w) pc = .ok (.arraylength, 1)) (hk : sk_S w (pc + 1) k) : sk_S w pc (o_alen k) := by
  intro L st M h
  unfold o_alen at h
  split at h
  next a r =>
    obtain ⟨ha, h⟩ := h
    intro p e s m args below meth c H locs cells slots mc ms ls hC g1 g2 hH hLo hl'
    have hkk := hk _ _ _ h p e s m args below meth c H locs cells slots mc ms ls hC g1 g2 hH hLo hl'
    obtain ⟨hx, hb, -, -, -, hown, -, hW, hg⟩ := hC
    simp only [sk_isI, Bool.or_eq_true, beq_iff_eq] at ha
    rcases ha with ha | ha
    · have hc := (sk_arr hH (a := a) (by omega) (by omega)).1
      have ht := (sk_arrT hg hW (q := (M.2 a).1) (by omega) (by omega)).1
      rw [ha] at ht hc
      exact W.alen (n := Int32.ofInt ((M.2 a).2.1 : Int)) hx hb hc (ht _ _) (by rw [arrV_size]; exact (Int32.ofInt_eq_ofNat).symm) rfl rfl hd hkk
    · obtain ⟨cell, e1, e2, e3, e4, -, e5⟩ := sk_old hH hW (a := a) (by omega) (by omega)
      exact W.alen (n := Int32.ofInt ((M.2 a).2.1 : Int)) hx hb e1 e2 (by rw [e4]; exact (Int32.ofInt_eq_ofNat).symm) rfl rfl hd hkk
  next => exact h.elim
theorem s_baload (hd : decode (sk_bc w) pc = .ok (.baload, 1)) (hk : sk_S w (pc + 1) k) : sk_S w pc (o_baload k) := by
  intro L st M h
  unfold o_baload at h
  split at h
  next i a r =>
    obtain ⟨ha, h0, h1, h⟩ := h
    intro p e s m args below meth c H locs cells slots mc ms ls hC g1 g2 hH hLo hl'
    have hkk := hk _ _ _ h p e s m args below meth c H locs cells slots mc ms ls hC g1 g2 hH hLo hl'
    obtain ⟨hx, hb, -, -, -, hown, -, hW, hg⟩ := hC
    have hlt : (sk_w i).toNat < (M.2 a).2.1 := by omega
    have hc := (sk_arr hH (a := a) (by omega) (by omega)).1
    have ht := (sk_arrT hg hW (q := (M.2 a).1) (by omega) (by omega)).1
    rw [ha] at ht hc
    exact W.zald (v := sk_val ((M.2 a).2.2 (sk_w i).toNat)) hx hb hc (ht _ _) (fun q => by cases q) (by rw [arrV_size]; exact sk_in h0 h1) (by rw [sk_ix, arrV_read _ _ hlt]) rfl rfl hd hkk
  next => exact h.elim
theorem s_laload (hd : decode (sk_bc w) pc = .ok (.laload, 1)) (hk : sk_S w (pc + 1) k) : sk_S w pc (o_laload k) := by
  intro L st M h
  unfold o_laload at h
  split at h
  next i a r =>
    obtain ⟨ha, h0, h1, h⟩ := h
    intro p e s m args below meth c H locs cells slots mc ms ls hC g1 g2 hH hLo hl'
    have hkk := hk _ _ _ h p e s m args below meth c H locs cells slots mc ms ls hC g1 g2 hH hLo hl'
    obtain ⟨hx, hb, -, -, -, hown, -, hW, hg⟩ := hC
    have hlt : (sk_w i).toNat < (M.2 a).2.1 := by omega
    have hc := (sk_arr hH (a := a) (by omega) (by omega)).1
    have ht := (sk_arrT hg hW (q := (M.2 a).1) (by omega) (by omega)).1
    rw [ha] at ht hc
    exact W.lald (v := sk_val ((M.2 a).2.2 (sk_w i).toNat)) hx hb hc (ht _ _) (fun q => by cases q) (by rw [arrV_size]; exact sk_in h0 h1) (by rw [sk_ix, arrV_read _ _ hlt]) rfl rfl hd hkk
  next => exact h.elim
theorem s_aaload (hd : decode (sk_bc w) pc = .ok (.aaload, 1)) (hk : sk_S w (pc + 1) k) : sk_S w pc (o_aaload k) := by
  intro L st M h
  unfold o_aaload at h
  split at h
  next i a r =>
    obtain ⟨ha, ha', h0, h1, h⟩ := h
    intro p e s m args below meth c H locs cells slots mc ms ls hC g1 g2 hH hLo hl'
    have hkk := hk _ _ _ h p e s m args below meth c H locs cells slots mc ms ls hC g1 g2 hH hLo hl'
    obtain ⟨hx, hb, -, -, -, hown, -, hW, hg⟩ := hC
    have hlt : (sk_w i).toNat < (M.2 a).2.1 := by omega
    have hc := (sk_arr hH (a := a) (by omega) (by omega)).1
    have ht := (sk_arrT hg hW (q := (M.2 a).1) (by omega) (by omega)).1
    have hr : (sk_ty (M.2 a).1).isReference = true := by
      rcases (show (M.2 a).1 = 23 ∨ (M.2 a).1 = 24 ∨ (M.2 a).1 = 25 by omega) with q | q | q <;> rw [q] <;> rfl
    exact W.aald (v := sk_val ((M.2 a).2.2 (sk_w i).toNat)) hx hb hc (ht _ _) hr (fun q => by cases q) (by rw [arrV_size]; exact sk_in h0 h1) (by rw [sk_ix, arrV_read _ _ hlt]) rfl rfl hd hkk
  next => exact h.elim
theorem sk_updV (f : Nat → sk_V) (j : Nat) (v : sk_V) : updV (fun j => sk_val (f j)) j (sk_val v) = fun j' => sk_val (va_up f j v j') := funext (sk_up_val f j v)
theorem sk_Lo1 {g : sk_G} {locs : List Loc} {a i : Nat} (h : sk_Lo g locs) (ha : sk_base g ≤ a) : sk_Lo g (locs ++ [⟨a, i⟩]) := by
  intro q hq
  rcases List.mem_append.mp hq with h' | h'
  · exact h q h'
  · simp at h'; subst h'; exact ha
theorem sk_H_arr {g : sk_G} {M : sk_M} {H H1 : Heap} {a q j : Nat} {v : sk_V} (hH : sk_H g M H) (hq : (M.2 a).1 = q) (h1 : 20 ≤ q) (h2 : q < 30) (e : H1[a]? = some ((arrV (g.2.2.2.1 q) (M.2 a).2.1 (fun j => sk_val ((M.2 a).2.2 j))).setSlot j (sk_val v))) (hs : H1.size = H.size) (ho : ∀ q, q ≠ a → H1[q]? = H[q]?) : sk_H g (M.1, va_up M.2 a (q, (M.2 a).2.1, va_up (M.2 a).2.2 j v)) H1 := by
  refine sk_H_put hH hs ho (sk_arr hH (a := a) (by omega) (by omega)).2 ⟨fun h => by simp at h; omega, fun _ _ => ?_, fun h => by simp at h; omega⟩
  rw [e, arrV_store, sk_updV]
theorem s_iastore (hd : decode (sk_bc w) pc = .ok (.iastore, 1)) (hk : sk_S w (pc + 1) k) : sk_S w pc (o_iastore k) := by
  intro L st M h
  unfold o_iastore at h
  split at h
  next x i a r =>
    obtain ⟨ha, h0, h1, h⟩ := h
    intro p e s m args below meth c H locs cells slots mc ms ls hC g1 g2 hH hLo hl'
    have hC0 := hC
    obtain ⟨hx, hb, -, -, -, hown, -, hW, hg⟩ := hC
    obtain ⟨hc, hba⟩ := sk_arr hH (a := a) (by omega) (by omega)
    have ht := (sk_arrT hg hW (q := (M.2 a).1) (by omega) (by omega)).1
    rw [ha] at ht hc
    refine W.iast hx hb hc (ht _ _) (fun q => by cases q) (by rw [arrV_size]; exact sk_in h0 h1) rfl rfl hd fun H1 e1 z oq => ?_
    rw [sk_ix] at e1 ⊢
    exact hk _ _ _ h p e s m args below meth c H1 _ cells slots mc ms ls hC0 g1 g2 (sk_H_arr (v := .inl x) hH ha (by omega) (by omega) e1 z oq) (sk_Lo1 hLo hba) hl'
  next => exact h.elim
theorem s_lastore (hd : decode (sk_bc w) pc = .ok (.lastore, 1)) (hk : sk_S w (pc + 1) k) : sk_S w pc (o_lastore k) := by
  intro L st M h
  unfold o_lastore at h
  split at h
  next x i a r =>
    obtain ⟨ha, h0, h1, h⟩ := h
    intro p e s m args below meth c H locs cells slots mc ms ls hC g1 g2 hH hLo hl'
    have hC0 := hC
    obtain ⟨hx, hb, -, -, -, hown, -, hW, hg⟩ := hC
    obtain ⟨hc, hba⟩ := sk_arr hH (a := a) (by omega) (by omega)
    have ht := (sk_arrT hg hW (q := (M.2 a).1) (by omega) (by omega)).1
    rw [ha] at ht hc
    refine W.last hx hb hc (ht _ _) (fun q => by cases q) (by rw [arrV_size]; exact sk_in h0 h1) rfl rfl hd fun H1 e1 z oq => ?_
    rw [sk_ix] at e1 ⊢
    exact hk _ _ _ h p e s m args below meth c H1 _ cells slots mc ms ls hC0 g1 g2 (sk_H_arr (v := .inr (.inl x)) hH ha (by omega) (by omega) e1 z oq) (sk_Lo1 hLo hba) hl'
  next => exact h.elim
theorem s_bastore (hd : decode (sk_bc w) pc = .ok (.bastore, 1)) (hk : sk_S w (pc + 1) k) : sk_S w pc (o_bastore k) := by
  intro L st M h
  unfold o_bastore at h
  split at h
  next x i a r =>
    obtain ⟨ha, hz, h0, h1, h⟩ := h
    intro p e s m args below meth c H locs cells slots mc ms ls hC g1 g2 hH hLo hl'
    have hC0 := hC
    obtain ⟨hx, hb, -, -, -, hown, -, hW, hg⟩ := hC
    obtain ⟨hc, hba⟩ := sk_arr hH (a := a) (by omega) (by omega)
    have ht := (sk_arrT hg hW (q := (M.2 a).1) (by omega) (by omega)).1
    rw [ha] at ht hc
    refine W.zast hx hb hc (ht _ _) (fun q => by cases q) (by rw [arrV_size]; exact sk_in h0 h1) rfl rfl hd fun H1 e1 z oq => ?_
    rw [sk_ix] at e1 ⊢
    rw [show narrow .boolean (.int (Int32.ofInt x)) = sk_val (.inl x) from (sk_narZ hz).1] at e1
    exact hk _ _ _ h p e s m args below meth c H1 _ cells slots mc ms ls hC0 g1 g2 (sk_H_arr (v := .inl x) hH ha (by omega) (by omega) e1 z oq) (sk_Lo1 hLo hba) hl'
  next => exact h.elim
theorem s_aastore (hd : decode (sk_bc w) pc = .ok (.aastore, 1)) (hk : sk_S w (pc + 1) k) : sk_S w pc (o_aastore k) := by
  intro L st M h
  unfold o_aastore at h
  split at h
  next v i a r =>
    obtain ⟨ha, ha', hv, h0, h1, h⟩ := h
    intro p e s m args below meth c H locs cells slots mc ms ls hC g1 g2 hH hLo hl'
    have hC0 := hC
    obtain ⟨hx, hb, -, -, -, hown, -, hW, hg⟩ := hC
    obtain ⟨hc, hba⟩ := sk_arr hH (a := a) (by omega) (by omega)
    have ht := (sk_arrT hg hW (q := (M.2 a).1) (by omega) (by omega)).2
    have hin := sk_in h0 h1
    have key : ∀ (q ci N : Nat) (C : String) (T : u_T), (M.2 a).1 = q → sk_ty q = .object C → vwCl[ci]? = some (C, T, N) → ci < 20 → (M.2 v).1 = ci → W p w.1.1 e (sk_R w.2.1 mc ms) s m args below meth c H locs cells slots (MQ below (sk_Q w.1 w.2.2.2.2.2) args s mc ms (sk_fr w.1)) (F0 m pc ls ((.inr (.inr (some v)) :: .inl i :: .inr (.inr (some a)) :: r : List sk_V).map sk_val)) := by
      intro q ci N C T hq hty hcl hci hvc
      rw [hq, hty] at ht
      obtain ⟨kA, comp, k1, k2, k3, -⟩ := ht
      obtain ⟨⟨cellV, v1, v2, v3, -⟩, -⟩ := sk_obj (s := s) hH hcl hci hvc
      have hcls := ((hg.1.moved hW.alike).1 ci _ hcl).2
      have hcomp : comp = w.1.2.2.1.1 ci := Option.some.inj (k3.symm.trans hcls.1)
      subst hcomp
      have hasg := va_assign hcls
      obtain ⟨kC, hkC, -⟩ := hcls.2
      refine W.aast hx hb hc (fun q h => by cases h) (fun h => by cases h) (by rw [hq]; exact k1) k2 rfl hkC ⟨fun z => hin (Or.inl z), by show _ < (arrV _ _ _).slots.size; rw [arrV_size]; exact Nat.not_le.mp fun z => hin (Or.inr z)⟩ v1 (fun q h => by rw [v3] at h; cases h) (by rw [v2]; exact hkC) (by rw [v2]; exact hasg) rfl rfl hd fun H1 e1 z oq => ?_
      rw [sk_ix] at e1 ⊢
      exact hk _ _ _ h p e s m args below meth c H1 _ cells slots mc ms ls hC0 g1 g2 (sk_H_arr (v := .inr (.inr (some v))) hH rfl (by omega) (by omega) e1 z oq) (sk_Lo1 hLo hba) hl'
    rcases (show (M.2 a).1 = 23 ∨ (M.2 a).1 = 24 ∨ (M.2 a).1 = 25 by omega) with q | q | q
    · exact key 23 5 6 RX5 TX5 q rfl rfl (by omega) (by rw [hv, q]; rfl)
    · exact key 24 1 5 RX1 TX1 q rfl rfl (by omega) (by rw [hv, q]; rfl)
    · exact key 25 10 9 RX10 TX10 q rfl rfl (by omega) (by rw [hv, q]; rfl)
  next => exact h.elim
end ARR
