/-! ===== new cells ===== -/
/-- behind a new cell -/
theorem sk_H_new {g : sk_G} {M : sk_M} {H H1 : Heap} {x : sk_C} (hH : sk_H g M H) (hs : H1.size = H.size + 1) (ho : ∀ q, q < H.size → H1[q]? = H[q]?) (hx : sk_at g M.1 x H1) : sk_H g (M.1 + 1, va_up M.2 M.1 x) H1 := by
  obtain ⟨e0, e1, e2, e3⟩ := hH
  refine ⟨by show H1.size = M.1 + 1; omega, by show sk_base g ≤ M.1 + 1; omega, fun q hq => (ho q (by omega)).trans (e2 q hq), fun q hq => ?_⟩
  by_cases hqa : q = M.1
  · subst hqa
    simp only [va_up, if_true] at hq ⊢
    exact ⟨hx, fun _ => e1⟩
  · simp only [va_up, if_neg hqa] at hq ⊢
    obtain ⟨⟨h1, h2, h3⟩, h4⟩ := e3 q hq
    have hlt : ∀ c : Cell, H[q]? = some c → q < H.size := fun c h => (Array.getElem?_eq_some_iff.mp h).1
    refine ⟨⟨fun h => ?_, fun h h' => (ho q (hlt _ (h2 h h'))).trans (h2 h h'), fun h h' => ?_⟩, h4⟩
    · obtain ⟨r, hr, h5⟩ := h1 h
      obtain ⟨cell, h6, -⟩ := id h5
      exact ⟨r, hr, h5.kept (ho q (hlt _ h6))⟩
    · obtain ⟨cell, f1, f2⟩ := h3 h h'
      exact ⟨cell, (ho q (hlt _ f1)).trans f1, f2⟩
def sk_dv : FieldType → sk_V
  | .long => .inr (.inl 0)
  | .object _ => .inr (.inr none)
  | .array _ => .inr (.inr none)
  | _ => .inl 0
def sk_prim : FieldType → Bool
  | .float => false
  | .double => false
  | _ => true
theorem sk_dv_ok (t : FieldType) (h : sk_prim t = true) : sk_val (sk_dv t) = defaultValue t := by
  cases t <;> first | rfl | simp [sk_prim] at h
def o_new (w : sk_W) (ci N : Nat) (fs : List sk_V) (k : sk_K) : sk_K := fun L st M => 1 ≤ w.2.2.1 ∧ N ≤ w.2.2.2.1 ∧ k L (.inr (.inr (some M.1)) :: st) (M.1 + 1, va_up M.2 M.1 (ci, 0, sk_F fs))
def o_newa (w : sk_W) (q N : Nat) (dv : Nat → sk_V) (k : sk_K) : sk_K := fun L st M => match st with
  | .inl n :: r => sk_w n = N ∧ 1 ≤ w.2.2.1 ∧ N ≤ w.2.2.2.1 ∧ k L (.inr (.inr (some M.1)) :: r) (M.1 + 1, va_up M.2 M.1 (q, N, dv))
  | _ => False
section NEW
variable {w w' : sk_W} {pc : Nat} {k : sk_K}
theorem s_new {ci N index : Nat} {C : String} {T : u_T} {ty : Nat → FieldType} {fs : List sk_V} (hd : decode (sk_bc w) pc = .ok (.new index, 3)) (hc : vwCl[ci]? = some (C, T, N)) (hci : ci < 20) (hty : ∀ k, k < N → parseFieldDescriptor (T k).2.2.1 = some (ty k)) (htp : ∀ k, k < N → sk_prim (ty k) = true) (hfs : ∀ k, k < N → sk_F fs k = sk_dv (ty k))
    (hl : Cond.classLink w.2.2.2.2.1.1.cls index C ∈ lw_tbl) (hin : Cond.instantiable C N ∈ lw_tbl) (hini : Cond.initialized C ∈ lw_tbl)
    (hw : w' = (w.1, w.2.1, w.2.2.1 - 1, w.2.2.2.1 - N, w.2.2.2.2.1, w.2.2.2.2.2)) (hk : sk_S w' (pc + 3) k) : sk_S w pc (o_new w ci N fs k) := by
  intro L st M h
  obtain ⟨hck, hsk, h⟩ := h
  intro p e s m args below meth c H locs cells slots mc ms ls hC h1 h2 hH hLo hl'
  have hC0 := hC
  obtain ⟨hx, hb, -, -, -, hown, -, hW, hg⟩ := hC
  have hKn := (hg.1.moved hW.alike).1 ci _ hc
  have hts := sk_lays hc hg hW args
  subst hw
  refine W.newcK hx hb hown (sk_use hl rfl hg hW args) (sk_use hin rfl hg hW args) (sk_use hini rfl hg hW args) rfl hd (by show cells + 1 ≤ mc; omega) (by show slots + N ≤ ms; omega) hKn.2.1 rfl fun H1 kC hkC e1 z1 o1 => ?_
  have hz := hH.1
  rw [hz] at e1 ⊢
  refine hk _ _ _ h p e s m args below meth c H1 locs (cells + 1) (slots + N) mc ms ls hC0 (by show cells + 1 + (w.2.2.1 - 1) ≤ mc; omega) (by show slots + N + (w.2.2.2.1 - N) ≤ ms; omega) (sk_H_new hH z1 o1 ⟨fun _ => ⟨_, hc, (u_born ty hts (fun _ h => h) hKn hkC e1 hty).to (fun j hj => by show _ = sk_val (sk_F fs j); rw [← sk_dv_ok _ (htp j hj), hfs j hj])⟩, fun h => by simp at h; omega, fun h => by simp at h; omega⟩) hLo hl'
theorem s_newa {q N : Nat} {at0 : ArrayType} {ty : FieldType} {dv : Nat → sk_V} (hd : decode (sk_bc w) pc = .ok (.newarray at0, 2)) (hq : 20 ≤ q) (hq2 : q < 23) (hty : newarray.typeOf at0 = ty) (hqt : sk_ty q = ty) (hra : va_RA = va_RA) (hdv : ∀ j, sk_val (dv j) = defaultValue ty) (hN : N ≤ 1000000)
    (hl : Cond.arrayClass ty ∈ lw_tbl) (hnm : ∀ (U : State) (cA : ClassId), va_RA U cA ty → U.vm.findClass ("[" ++ ty.toString) = some cA) (hby : componentBytes ty ≤ 8)
    (hw : w' = (w.1, w.2.1, w.2.2.1 - 1, w.2.2.2.1 - N, w.2.2.2.2.1, w.2.2.2.2.2)) (hk : sk_S w' (pc + 2) k) : sk_S w pc (o_newa w q N dv k) := by
  intro L st M h
  unfold o_newa at h
  split at h
  next n r =>
    obtain ⟨hn, hck, hsk, h⟩ := h
    intro p e s m args below meth c H locs cells slots mc ms ls hC h1 h2 hH hLo hl'
    have hC0 := hC
    obtain ⟨hx, hb, -, -, -, hown, -, hW, hg⟩ := hC
    have ht := (sk_arrT hg hW (q := q) (by omega) (by omega)).2
    rw [hqt] at ht
    subst hw
    subst hty
    refine va_newaK hx hb (sk_use hl rfl hg hW args) rfl hd rfl (n := Int32.ofInt n) (by rw [sk_lt0]; omega) (N := N) (by rw [sk_ix]; omega) (Nat.le_trans (Nat.mul_le_mul hN hby) (by decide)) (by show cells + 1 ≤ mc; omega) (by show slots + N ≤ ms; omega) hH.1 fun H1 cA e1 z1 o1 _ hf => ?_
    have hcA : cA = w.1.2.2.2.1 q := Option.some.inj (hf.symm.trans (hnm _ _ ht))
    subst hcA
    refine hk _ _ _ h p e s m args below meth c H1 locs (cells + 1) (slots + N) mc ms ls hC0 (by show cells + 1 + (w.2.2.1 - 1) ≤ mc; omega) (by show slots + N + (w.2.2.2.1 - N) ≤ ms; omega) (sk_H_new hH (by rw [hH.1]; exact z1) (fun q hq => o1 q (by rw [← hH.1]; exact hq)) ⟨fun h => by simp at h; omega, fun _ _ => by rw [e1]; simp only [hdv], fun h => by simp at h; omega⟩) hLo hl'
  next => exact h.elim
theorem s_newI {N : Nat} (hd : decode (sk_bc w) pc = .ok (.newarray .int, 2)) (hN : N ≤ 1000000) (hl : Cond.arrayClass .int ∈ lw_tbl) (hw : w' = (w.1, w.2.1, w.2.2.1 - 1, w.2.2.2.1 - N, w.2.2.2.2.1, w.2.2.2.2.2)) (hk : sk_S w' (pc + 2) k) : sk_S w pc (o_newa w 20 N (sk_I (fun _ => 0)) k) :=
  s_newa hd (by omega) (by omega) (ty := .int) rfl rfl rfl (fun _ => rfl) hN hl (fun _ _ h => h) (by decide) hw hk
theorem s_newZ {N : Nat} (hd : decode (sk_bc w) pc = .ok (.newarray .boolean, 2)) (hN : N ≤ 1000000) (hl : Cond.arrayClass .boolean ∈ lw_tbl) (hw : w' = (w.1, w.2.1, w.2.2.1 - 1, w.2.2.2.1 - N, w.2.2.2.2.1, w.2.2.2.2.2)) (hk : sk_S w' (pc + 2) k) : sk_S w pc (o_newa w 21 N (sk_I (fun _ => 0)) k) :=
  s_newa hd (by omega) (by omega) (ty := .boolean) rfl rfl rfl (fun _ => rfl) hN hl (fun _ _ h => h) (by decide) hw hk
theorem s_newJ {N : Nat} (hd : decode (sk_bc w) pc = .ok (.newarray .long, 2)) (hN : N ≤ 1000000) (hl : Cond.arrayClass .long ∈ lw_tbl) (hw : w' = (w.1, w.2.1, w.2.2.1 - 1, w.2.2.2.1 - N, w.2.2.2.2.1, w.2.2.2.2.2)) (hk : sk_S w' (pc + 2) k) : sk_S w pc (o_newa w 22 N (fun _ => .inr (.inl 0)) k) :=
  s_newa hd (by omega) (by omega) (ty := .long) rfl rfl rfl (fun _ => rfl) hN hl (fun _ _ h => h) (by decide) hw hk
theorem s_anewa {q N index : Nat} {C : String} (hd : decode (sk_bc w) pc = .ok (.anewarray index, 3)) (hq : 23 ≤ q) (hq2 : q < 26) (hqt : sk_ty q = .object C) (hN : N ≤ 1000000)
    (hl : Cond.classLink w.2.2.2.2.1.1.cls index C ∈ lw_tbl) (hov : Cond.arrayOver (.object C) ∈ lw_tbl) (hw : w' = (w.1, w.2.1, w.2.2.1 - 1, w.2.2.2.1 - N, w.2.2.2.2.1, w.2.2.2.2.2)) (hk : sk_S w' (pc + 3) k) : sk_S w pc (o_newa w q N (sk_A (fun _ => none)) k) := by
  intro L st M h
  unfold o_newa at h
  split at h
  next n r =>
    obtain ⟨hn, hck, hsk, h⟩ := h
    intro p e s m args below meth c H locs cells slots mc ms ls hC h1 h2 hH hLo hl'
    have hC0 := hC
    obtain ⟨hx, hb, -, -, -, hown, -, hW, hg⟩ := hC
    have ht := (sk_arrT hg hW (q := q) (by omega) (by omega)).2
    rw [hqt] at ht
    obtain ⟨kA0, comp0, -, -, -, ht⟩ := ht
    subst hw
    have hix : (Int32.ofInt n).toNatClampNeg = N := by rw [sk_ix]; omega
    have hov' : (Cond.arrayOver (.object C)).before args s = true := by
      obtain ⟨-, -, ⟨v, hv⟩, -⟩ := id hg
      exact va_AO.use (va_AO.moved hW.alike (va_AO.of (hv _ hov)))
    refine W.anew hx hb hown (sk_use hl rfl hg hW args) hov' rfl hd rfl (n := Int32.ofInt n) (by rw [sk_lt0]; omega) (by rw [hix]; omega) (by show cells + 1 ≤ mc; omega) (by show slots + _ ≤ ms; rw [hix]; omega) fun cA kA comp f1 f2 f3 f4 => ?_
    rw [hix, hH.1]
    have hcA : cA = w.1.2.2.2.1 q := Option.some.inj (f1.symm.trans ht)
    subst hcA
    refine hk _ _ _ h p e s m args below meth c _ locs (cells + 1) (slots + N) mc ms ls hC0 (by show cells + 1 + (w.2.2.1 - 1) ≤ mc; omega) (by show slots + N + (w.2.2.2.1 - N) ≤ ms; omega) (sk_H_new hH (by rw [Array.size_push]) (fun q hq => by rw [Array.getElem?_push, if_neg (Nat.ne_of_lt hq)]) ⟨fun h => by simp at h; omega, fun _ _ => ?_, fun h => by simp at h; omega⟩) hLo hl'
    rw [← hH.1, Array.getElem?_push_size, arrV_new]
    rfl
  next => exact h.elim
/-- the constructor of Object -/
def o_obj (w : sk_W) (k : sk_K) : sk_K := fun L st M => match st with
  | .inr (.inr (some _)) :: r => 1 ≤ w.2.1 ∧ sk_wt r ≤ 8 ∧ k L r M
  | _ => False
theorem s_obj {index : Nat} (hd : decode (sk_bc w) pc = .ok (.invokespecial index, 3)) (hl : Cond.methodLink w.2.2.2.2.1.1.cls index Lib.objectInit ∈ lw_tbl) (hin : Cond.instanceMethod Lib.objectInit ∈ lw_tbl) (hco : Cond.code Lib.objectInit ⟨#[0xb1]⟩ 1 none ∈ lw_tbl) (hk : sk_S w (pc + 3) k) : sk_S w pc (o_obj w k) := by
  intro L st M h
  unfold o_obj at h
  split at h
  next a r =>
    obtain ⟨hdd, hwt, h⟩ := h
    intro p e s m args below meth c H locs cells slots mc ms ls hC h1 h2 hH hLo hl'
    have hkk := hk _ _ _ h p e s m args below meth c H locs cells slots mc ms ls hC h1 h2 hH hLo hl'
    obtain ⟨hx, hb, -, hml, -, hown, -, hW, hg⟩ := hC
    refine W.objInit hx hb hown (sk_use hl rfl hg hW args) (sk_use hin rfl hg hW args) (sk_use hco rfl hg hW args) rfl (hl'.1.trans hml.symm) rfl hd (by show 1 ≤ w.2.1; exact hdd) ?_ hkk
    have := sk_wt_eq r
    have h8 := lv_room (m := m) (pc := pc) (ls := ls) (rest := []) (st := r.map sk_val) (by rw [sk_wt_eq]; exact hwt)
    show 2 * (F0 m pc ls _).monitorRoom + _ + 12 ≤ 80 * w.2.1
    have : 2 * (F0 m pc ls (((.inr (.inr (some a)) :: r : List sk_V)).map sk_val)).monitorRoom + ((r.map sk_val).map fun v => v.category).sum ≤ 8 := h8
    omega
  next => exact h.elim
end NEW
