/-! ===== fields ===== -/
theorem sk_cin {ci N : Nat} {C : String} {T : u_T} (hc : vwCl[ci]? = some (C, T, N)) : ∀ x ∈ u_ws C T N, x ∈ lw_tbl := by
  match ci, hc with
  | 0, hc => cases hc; exact sk_inX0
  | 1, hc => cases hc; exact sk_inX1
  | 2, hc => cases hc; exact sk_inX2
  | 3, hc => cases hc; exact sk_inX3
  | 4, hc => cases hc; exact sk_inX4
  | 5, hc => cases hc; exact sk_inX5
  | 6, hc => cases hc; exact sk_inX6
  | 7, hc => cases hc; exact sk_inX7
  | 8, hc => cases hc; exact sk_inX8
  | 9, hc => cases hc; exact sk_inX9
  | 10, hc => cases hc; exact sk_inX10
  | 11, hc => cases hc; exact sk_inX11
  | 12, hc => cases hc; exact sk_inX12
  | n + 13, hc => simp [vwCl] at hc
theorem sk_cty {ci N : Nat} {C : String} {T : u_T} (hc : vwCl[ci]? = some (C, T, N)) : ∃ ty : Nat → FieldType, ∀ k, k < N → parseFieldDescriptor (T k).2.2.1 = some (ty k) := by
  match ci, hc with
  | 0, hc => cases hc; exact ⟨_, tyX0_ok⟩
  | 1, hc => cases hc; exact ⟨_, tyX1_ok⟩
  | 2, hc => cases hc; exact ⟨_, tyX2_ok⟩
  | 3, hc => cases hc; exact ⟨_, tyX3_ok⟩
  | 4, hc => cases hc; exact ⟨_, tyX4_ok⟩
  | 5, hc => cases hc; exact ⟨_, tyX5_ok⟩
  | 6, hc => cases hc; exact ⟨_, tyX6_ok⟩
  | 7, hc => cases hc; exact ⟨_, tyX7_ok⟩
  | 8, hc => cases hc; exact ⟨_, tyX8_ok⟩
  | 9, hc => cases hc; exact ⟨_, tyX9_ok⟩
  | 10, hc => cases hc; exact ⟨_, tyX10_ok⟩
  | 11, hc => cases hc; exact ⟨_, tyX11_ok⟩
  | 12, hc => cases hc; exact ⟨_, tyX12_ok⟩
  | n + 13, hc => simp [vwCl] at hc
theorem sk_cnm {ci N : Nat} {C : String} {T : u_T} (hc : vwCl[ci]? = some (C, T, N)) : ∀ a, a < N → ∀ b, b < N → a ≠ b → (T a).2.1 ≠ (T b).2.1 := by
  match ci, hc with
  | 0, hc => cases hc; exact nmX0
  | 1, hc => cases hc; exact nmX1
  | 2, hc => cases hc; exact nmX2
  | 3, hc => cases hc; exact nmX3
  | 4, hc => cases hc; exact nmX4
  | 5, hc => cases hc; exact nmX5
  | 6, hc => cases hc; exact nmX6
  | 7, hc => cases hc; exact nmX7
  | 8, hc => cases hc; exact nmX8
  | 9, hc => cases hc; exact nmX9
  | 10, hc => cases hc; exact nmX10
  | 11, hc => cases hc; exact nmX11
  | 12, hc => cases hc; exact nmX12
  | n + 13, hc => simp [vwCl] at hc
theorem sk_lays {g : sk_G} {s : State} {ci N : Nat} {C : String} {T : u_T} (hc : vwCl[ci]? = some (C, T, N)) (hg : sk_ok g) (hW : g.2.1.WarmedH s.vm) (args : Array Value) : ∀ x ∈ u_ws C T N, x.before args s = true := by
  intro x hx
  refine sk_use (sk_cin hc x hx) ?_ hg hW args
  obtain ⟨k, -, rfl⟩ := List.mem_map.mp hx
  unfold u_lay
  split <;> rfl
/-- what is known of an object at a -/
theorem sk_obj {g : sk_G} {s : State} {M : sk_M} {H : Heap} {a ci N : Nat} {C : String} {T : u_T} (hH : sk_H g M H) (hc : vwCl[ci]? = some (C, T, N)) (hci : ci < 20) (ha : (M.2 a).1 = ci) : t_OB a (g.2.2.1.1 ci) N (g.2.2.1.2 ci) H (fun j => sk_val ((M.2 a).2.2 j)) ∧ sk_base g ≤ a := by
  obtain ⟨⟨h1, -, -⟩, h2⟩ := hH.2.2.2 a (by omega)
  obtain ⟨r, hr, h3⟩ := h1 (by omega)
  rw [ha] at hr h3
  cases hr.symm.trans hc
  exact ⟨h3, h2 (by omega)⟩
/-- behind a store into one cell: the new heap has the new picture -/
theorem sk_H_put {g : sk_G} {M : sk_M} {H H1 : Heap} {a : Nat} {x : sk_C} (hH : sk_H g M H) (hs : H1.size = H.size) (ho : ∀ q, q ≠ a → H1[q]? = H[q]?) (hb : sk_base g ≤ a) (hx : sk_at g a x H1) : sk_H g (M.1, va_up M.2 a x) H1 := by
  refine ⟨hs.trans hH.1, hH.2.1, fun q hq => (ho q (by omega)).trans (hH.2.2.1 q hq), fun q hq => ?_⟩
  by_cases hqa : q = a
  · subst hqa
    simp only [va_up, if_true] at hq ⊢
    exact ⟨hx, fun _ => hb⟩
  · simp only [va_up, if_neg hqa] at hq ⊢
    obtain ⟨⟨h1, h2, h3⟩, h4⟩ := hH.2.2.2 q hq
    refine ⟨⟨fun h => ?_, fun h h' => (ho q hqa).trans (h2 h h'), fun h h' => ?_⟩, h4⟩
    · obtain ⟨r, hr, h5⟩ := h1 h
      exact ⟨r, hr, h5.kept (ho q hqa)⟩
    · obtain ⟨cell, e1, e2⟩ := h3 h h'
      exact ⟨cell, (ho q hqa).trans e1, e2⟩
def o_getf (ci j : Nat) (k : sk_K) : sk_K := fun L st M => match st with
  | .inr (.inr (some a)) :: r => (M.2 a).1 = ci ∧ k L ((M.2 a).2.2 j :: r) M
  | _ => False
def o_puti (ci j : Nat) (k : sk_K) : sk_K := fun L st M => match st with
  | .inl x :: .inr (.inr (some a)) :: r => (M.2 a).1 = ci ∧ k L r (M.1, va_up M.2 a (ci, (M.2 a).2.1, va_up (M.2 a).2.2 j (.inl x)))
  | _ => False
def o_putz (ci j : Nat) (k : sk_K) : sk_K := fun L st M => match st with
  | .inl x :: .inr (.inr (some a)) :: r => (M.2 a).1 = ci ∧ (x = 0 ∨ x = 1) ∧ k L r (M.1, va_up M.2 a (ci, (M.2 a).2.1, va_up (M.2 a).2.2 j (.inl x)))
  | _ => False
def o_putl (ci j : Nat) (k : sk_K) : sk_K := fun L st M => match st with
  | .inr (.inl x) :: .inr (.inr (some a)) :: r => (M.2 a).1 = ci ∧ k L r (M.1, va_up M.2 a (ci, (M.2 a).2.1, va_up (M.2 a).2.2 j (.inr (.inl x))))
  | _ => False
def o_puta (ci j : Nat) (k : sk_K) : sk_K := fun L st M => match st with
  | .inr (.inr x) :: .inr (.inr (some a)) :: r => (M.2 a).1 = ci ∧ k L r (M.1, va_up M.2 a (ci, (M.2 a).2.1, va_up (M.2 a).2.2 j (.inr (.inr x))))
  | _ => False
section HEAP
variable {w : sk_W} {pc : Nat} {k : sk_K}
theorem s_getf {ci j index N : Nat} {C : String} {T : u_T} (hd : decode (sk_bc w) pc = .ok (.getfield index, 3)) (hc : vwCl[ci]? = some (C, T, N)) (hj : j < N) (hci : ci < 20)
    (hl : Cond.fieldLink w.2.2.2.2.1.1.cls index (T j).1 (T j).2.1 (T j).2.2.1 ∈ lw_tbl) (hk : sk_S w (pc + 3) k) : sk_S w pc (o_getf ci j k) := by
  intro L st M h
  unfold o_getf at h
  split at h
  next a r =>
    intro p e s m args below meth c H locs cells slots mc ms ls hC h1 h2 hH hLo hl'
    have hC0 := hC
    obtain ⟨hx, hb, -, -, -, hown, -, hW, hg⟩ := hC
    obtain ⟨⟨cell, q1, q2, q3, q4⟩, -⟩ := sk_obj (s := s) hH hc hci h.1
    obtain ⟨hS, hfc, kC, hkC, hkind⟩ := (hg.1.moved hW.alike).1 ci _ hc
    obtain ⟨cf, kf, fi, f, hi, hsl⟩ := hS j hj
    have hts := sk_lays hc hg hW args
    refine W.getf hx hb hown (sk_use hl rfl hg hW args) hi (u_facts hfc hkC (u_lays hts (fun _ h => h) hj) hi).1 q1 (by rw [q3]; exact fun h => by cases h) (v := sk_val ((M.2 a).2.2 j)) (by rw [hsl]; exact q4 j hj) rfl rfl hd ?_
    exact hk _ _ _ h.2 p e s m args below meth c H locs cells slots mc ms ls hC0 h1 h2 hH hLo hl'
  next => exact h.elim
theorem s_getfN {ci j index N : Nat} {C host : String} {T : u_T} (hd : decode (sk_bc w) pc = .ok (.getfield index, 3)) (hc : vwCl[ci]? = some (C, T, N)) (hj : j < N) (hci : ci < 20)
    (hl : Cond.fieldLinkNest w.2.2.2.2.1.1.cls index (T j).1 (T j).2.1 (T j).2.2.1 host ∈ lw_tbl) (hk : sk_S w (pc + 3) k) : sk_S w pc (o_getf ci j k) := by
  intro L st M h
  unfold o_getf at h
  split at h
  next a r =>
    intro p e s m args below meth c H locs cells slots mc ms ls hC h1 h2 hH hLo hl'
    have hC0 := hC
    obtain ⟨hx, hb, -, -, -, hown, -, hW, hg⟩ := hC
    obtain ⟨⟨cell, q1, q2, q3, q4⟩, -⟩ := sk_obj (s := s) hH hc hci h.1
    obtain ⟨hS, hfc, kC, hkC, hkind⟩ := (hg.1.moved hW.alike).1 ci _ hc
    obtain ⟨cf, kf, fi, f, hi, hsl⟩ := hS j hj
    have hts := sk_lays hc hg hW args
    refine va_Wgetf hx hb hown (va_Nw.use rfl (sk_useF hl hg hW)) hi (u_facts hfc hkC (u_lays hts (fun _ h => h) hj) hi).1 q1 (by rw [q3]; exact fun h => by cases h) (v := sk_val ((M.2 a).2.2 j)) (by rw [hsl]; exact q4 j hj) rfl rfl hd ?_
    exact hk _ _ _ h.2 p e s m args below meth c H locs cells slots mc ms ls hC0 h1 h2 hH hLo hl'
  next => exact h.elim
theorem sk_up_val (f : Nat → sk_V) (j : Nat) (v : sk_V) (n : Nat) : updV (fun j => sk_val (f j)) j (sk_val v) n = sk_val (va_up f j v n) := by
  unfold updV va_up
  split <;> rfl
/-- a store into a field that isn't final -/
theorem sk_putf {ci j index N : Nat} {C : String} {T : u_T} {ty : FieldType} {v : sk_V} {a : Nat} {L : List (Option sk_V)} {r : List sk_V} {M : sk_M} (hd : decode (sk_bc w) pc = .ok (.putfield index, 3)) (hc : vwCl[ci]? = some (C, T, N)) (hj : j < N) (hci : ci < 20) (hfin : (T j).2.2.2 = false) (hty : parseFieldDescriptor (T j).2.2.1 = some ty) (hn : narrow ty (sk_val v) = sk_val v) (hfit : fits ty (sk_val v) = true)
    (hl : Cond.fieldLink w.2.2.2.2.1.1.cls index (T j).1 (T j).2.1 (T j).2.2.1 ∈ lw_tbl) (ha : (M.2 a).1 = ci) (hk : sk_B w (pc + 3) L r (M.1, va_up M.2 a (ci, (M.2 a).2.1, va_up (M.2 a).2.2 j v))) : sk_B w pc L (v :: .inr (.inr (some a)) :: r) M := by
  intro p e s m args below meth c H locs cells slots mc ms ls hC h1 h2 hH hLo hl'
  have hC0 := hC
  obtain ⟨hx, hb, -, -, -, hown, -, hW, hg⟩ := hC
  obtain ⟨⟨cell, q1, q2, q3, q4⟩, hba⟩ := sk_obj (s := s) hH hc hci ha
  have hK := hg.1.moved hW.alike
  have hts := sk_lays hc hg hW args
  obtain ⟨ty0, hty0⟩ := sk_cty hc
  have hap := va_apart (own := C) hts (fun _ h => h) ty0 hty0 (sk_cnm hc) hK hc
  obtain ⟨hS, hfc, kC, hkC, hkind⟩ := hK.1 ci _ hc
  obtain ⟨cf, kf, fi, f, hi, hsl⟩ := hS j hj
  have hlay := hts _ (u_in_lay hj)
  unfold u_lay at hlay
  rw [if_neg (by rw [hfin]; decide)] at hlay
  have hst := (u_facts hfc hkC (u_lays hts (fun _ h => h) hj) hi).1
  have h6 := u_store hfc hkC hkind hlay hi hty hn hfit
  refine W.putK hx hb (f := f) ⟨hown, sk_use hl rfl hg hW args, ⟨_, _, _, hi⟩, hst⟩ (by rw [q2]; exact h6) q1 q3 (by rw [hsl]; exact k2_hasslot (q4 j hj)) rfl rfl hd fun H' e1 e2 e3 => ?_
  rw [hsl] at e1 ⊢
  refine hk p e s m args below meth c H' _ cells slots mc ms ls hC0 h1 h2 (sk_H_put hH e2 e3 hba ⟨fun _ => ⟨_, hc, t_OB.to ⟨_, e1, q2, q3, t_set q4 hap hj _⟩ (fun n _ => sk_up_val _ _ _ _)⟩, fun h => by simp at h; omega, fun h => by simp at h; omega⟩) (fun q hq => ?_) hl'
  rcases List.mem_append.mp hq with h | h
  · exact hLo q h
  · simp at h; subst h; exact hba
theorem sk_putfN {ci j index N : Nat} {C host : String} {T : u_T} {ty : FieldType} {v : sk_V} {a : Nat} {L : List (Option sk_V)} {r : List sk_V} {M : sk_M} (hd : decode (sk_bc w) pc = .ok (.putfield index, 3)) (hc : vwCl[ci]? = some (C, T, N)) (hj : j < N) (hci : ci < 20) (hfin : (T j).2.2.2 = false) (hty : parseFieldDescriptor (T j).2.2.1 = some ty) (hn : narrow ty (sk_val v) = sk_val v) (hfit : fits ty (sk_val v) = true)
    (hl : Cond.fieldLinkNest w.2.2.2.2.1.1.cls index (T j).1 (T j).2.1 (T j).2.2.1 host ∈ lw_tbl) (ha : (M.2 a).1 = ci) (hk : sk_B w (pc + 3) L r (M.1, va_up M.2 a (ci, (M.2 a).2.1, va_up (M.2 a).2.2 j v))) : sk_B w pc L (v :: .inr (.inr (some a)) :: r) M := by
  intro p e s m args below meth c H locs cells slots mc ms ls hC h1 h2 hH hLo hl'
  have hC0 := hC
  obtain ⟨hx, hb, -, -, -, hown, -, hW, hg⟩ := hC
  obtain ⟨⟨cell, q1, q2, q3, q4⟩, hba⟩ := sk_obj (s := s) hH hc hci ha
  have hK := hg.1.moved hW.alike
  have hts := sk_lays hc hg hW args
  obtain ⟨ty0, hty0⟩ := sk_cty hc
  have hap := va_apart (own := C) hts (fun _ h => h) ty0 hty0 (sk_cnm hc) hK hc
  obtain ⟨hS, hfc, kC, hkC, hkind⟩ := hK.1 ci _ hc
  obtain ⟨cf, kf, fi, f, hi, hsl⟩ := hS j hj
  have hlay := hts _ (u_in_lay hj)
  unfold u_lay at hlay
  rw [if_neg (by rw [hfin]; decide)] at hlay
  have hst := (u_facts hfc hkC (u_lays hts (fun _ h => h) hj) hi).1
  have h6 := u_store hfc hkC hkind hlay hi hty hn hfit
  refine va_WputK hx hb (f := f) hown (va_Nw.use rfl (sk_useF hl hg hW)) hi hst (by rw [q2]; exact h6) q1 q3 (by rw [hsl]; exact k2_hasslot (q4 j hj)) rfl rfl hd fun H' e1 e2 e3 => ?_
  rw [hsl] at e1 ⊢
  refine hk p e s m args below meth c H' _ cells slots mc ms ls hC0 h1 h2 (sk_H_put hH e2 e3 hba ⟨fun _ => ⟨_, hc, t_OB.to ⟨_, e1, q2, q3, t_set q4 hap hj _⟩ (fun n _ => sk_up_val _ _ _ _)⟩, fun h => by simp at h; omega, fun h => by simp at h; omega⟩) (fun q hq => ?_) hl'
  rcases List.mem_append.mp hq with h | h
  · exact hLo q h
  · simp at h; subst h; exact hba
theorem sk_putfF {ci j index N : Nat} {C : String} {T : u_T} {ty : FieldType} {v : sk_V} {a : Nat} {L : List (Option sk_V)} {r : List sk_V} {M : sk_M} (hd : decode (sk_bc w) pc = .ok (.putfield index, 3)) (hc : vwCl[ci]? = some (C, T, N)) (hj : j < N) (hci : ci < 20) (hfin : (T j).2.2.2 = true) (hin2 : w.2.2.2.2.1.1.name = "<init>") (hdecl : (T j).1 = w.2.2.2.2.1.1.cls) (hty : parseFieldDescriptor (T j).2.2.1 = some ty) (hn : narrow ty (sk_val v) = sk_val v) (hfit : fits ty (sk_val v) = true)
    (hl : Cond.fieldLink w.2.2.2.2.1.1.cls index (T j).1 (T j).2.1 (T j).2.2.1 ∈ lw_tbl) (ha : (M.2 a).1 = ci) (hk : sk_B w (pc + 3) L r (M.1, va_up M.2 a (ci, (M.2 a).2.1, va_up (M.2 a).2.2 j v))) : sk_B w pc L (v :: .inr (.inr (some a)) :: r) M := by
  intro p e s m args below meth c H locs cells slots mc ms ls hC h1 h2 hH hLo hl'
  have hC0 := hC
  obtain ⟨hx, hb, -, -, -, hown, hnm, hW, hg⟩ := hC
  obtain ⟨⟨cell, q1, q2, q3, q4⟩, hba⟩ := sk_obj (s := s) hH hc hci ha
  have hK := hg.1.moved hW.alike
  have hts := sk_lays hc hg hW args
  obtain ⟨ty0, hty0⟩ := sk_cty hc
  have hap := va_apart (own := C) hts (fun _ h => h) ty0 hty0 (sk_cnm hc) hK hc
  obtain ⟨hS, hfc, kC, hkC, hkind⟩ := hK.1 ci _ hc
  obtain ⟨cf, kf, fi, f, hi, hsl⟩ := hS j hj
  have hlay := hts _ (u_in_lay hj)
  unfold u_lay at hlay
  rw [if_pos hfin] at hlay
  have hst := (u_facts hfc hkC (u_lays hts (fun _ h => h) hj) hi).1
  have hcf : m.cls = cf := by
    obtain ⟨_, _, c', _, _, _, -, -, hf', -, -, -, hown2, -⟩ := Cond.laysFinal_spec hlay
    have e1 : c' = cf := by have := hi.symm.trans hf'; simp at this; exact this.1.symm
    rw [hdecl] at hown2
    rw [← e1]; exact Option.some.inj (hown.symm.trans hown2)
  have h6 := u_fits hfc hkC hkind (Or.inr hlay) hi hty hn hfit
  refine W.putFinK hx hb hown (sk_use hl rfl hg hW args) hi hst hcf (hnm.trans hin2) (by rw [q2]; exact h6) q1 q3 (by rw [hsl]; exact k2_hasslot (q4 j hj)) rfl rfl hd fun H' e1 e2 e3 => ?_
  rw [hsl] at e1 ⊢
  refine hk p e s m args below meth c H' _ cells slots mc ms ls hC0 h1 h2 (sk_H_put hH e2 e3 hba ⟨fun _ => ⟨_, hc, t_OB.to ⟨_, e1, q2, q3, t_set q4 hap hj _⟩ (fun n _ => sk_up_val _ _ _ _)⟩, fun h => by simp at h; omega, fun h => by simp at h; omega⟩) (fun q hq => ?_) hl'
  rcases List.mem_append.mp hq with h | h
  · exact hLo q h
  · simp at h; subst h; exact hba
end HEAP
