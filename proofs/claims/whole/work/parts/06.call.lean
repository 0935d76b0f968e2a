/-! ===== a method as a whole: its entry ===== -/
def sk_ent : List sk_V → List (Option sk_V)
  | [] => []
  | .inr (.inl x) :: r => some (.inr (.inl x)) :: none :: sk_ent r
  | v :: r => some v :: sk_ent r
def sk_pad : Nat → List (Option sk_V) → List (Option sk_V)
  | 0, L => L
  | n + 1, [] => none :: sk_pad n []
  | n + 1, a :: L => a :: sk_pad n L
/-- a call: the callee from its entry, with what the caller wants behind it -/
def sk_call (g : sk_G) (d ck sk : Nat) (X : sk_X) (as : List sk_V) (M : sk_M) (Q : sk_P) : Prop := sk_B (g, d, ck, sk, X, Q) 0 (sk_pad X.2.2.1 (sk_ent as)) [] M
theorem sk_lv_ent : ∀ (as : List sk_V) (i : Nat), sk_lv i (sk_ent as) = lv_args i (as.map sk_val)
  | [], i => rfl
  | .inl x :: r, i => by
    simp only [sk_ent, sk_lv, List.map_cons, lv_args]
    rw [sk_lv_ent r (i + 1)]
    simp [sk_val, Value.category]
  | .inr (.inl x) :: r, i => by
    simp only [sk_ent, sk_lv, List.map_cons, lv_args]
    rw [sk_lv_ent r (i + 1 + 1)]
    simp [sk_val, Value.category]
  | .inr (.inr none) :: r, i => by
    simp only [sk_ent, sk_lv, List.map_cons, lv_args]
    rw [sk_lv_ent r (i + 1)]
    simp [sk_val, va_rf, Value.category]
  | .inr (.inr (some a)) :: r, i => by
    simp only [sk_ent, sk_lv, List.map_cons, lv_args]
    rw [sk_lv_ent r (i + 1)]
    simp [sk_val, va_rf, Value.category]
theorem sk_lv_pad0 : ∀ (n i : Nat), sk_lv i (sk_pad n []) = []
  | 0, i => rfl
  | n + 1, i => by simp only [sk_pad, sk_lv]; exact sk_lv_pad0 n (i + 1)
theorem sk_lv_pad : ∀ (n : Nat) (L : List (Option sk_V)) (i : Nat), sk_lv i (sk_pad n L) = sk_lv i L
  | 0, L, i => rfl
  | n + 1, [], i => by simp only [sk_pad, sk_lv]; exact sk_lv_pad0 n (i + 1)
  | n + 1, none :: L, i => by simp only [sk_pad, sk_lv]; exact sk_lv_pad n L (i + 1)
  | n + 1, some v :: L, i => by simp only [sk_pad, sk_lv]; rw [sk_lv_pad n L (i + 1)]
theorem sk_ent_len : ∀ as : List sk_V, (lg_sl (as.map sk_val)).length = (sk_ent as).length
  | [] => rfl
  | .inl x :: r => by have := sk_ent_len r; simp [lg_sl, sk_ent, sk_val, Value.category] at *; omega
  | .inr (.inl x) :: r => by have := sk_ent_len r; simp [lg_sl, sk_ent, sk_val, Value.category] at *; omega
  | .inr (.inr none) :: r => by have := sk_ent_len r; simp [lg_sl, sk_ent, sk_val, va_rf, Value.category] at *; omega
  | .inr (.inr (some a)) :: r => by have := sk_ent_len r; simp [lg_sl, sk_ent, sk_val, va_rf, Value.category] at *; omega
def sk_Pc (g : sk_G) (as : List sk_V) (M : sk_M) : Array Value → State → Prop := va_Pc (as.map sk_val) (fun U => sk_H g M U.heap ∧ g.2.1.WarmedH U.vm)
theorem sk_ofW {l : Launch} {y : MethodName} {ws ws' : List Cond} {rm : Room} {Pc : Array Value → State → Prop} {Qc : Array Value → State → Outcome → State → Prop} {mc ms : Nat} {free : Addr → Prop} {cc : ByteArray} {maxL : Nat} {ret : Option FieldType}
    (hy : plainFor y = true) (hw : ws = Cond.code y cc maxL ret :: ws')
    (body : ∀ p e s m args below meth c s₁, BodyLoose p l y (headSpec ws rm) cc maxL ret e s m args below meth c s₁ → c.maxLocals = maxL → Pc args s →
      W p l e (headSpec ws rm).room s m args below meth c s.heap [] 0 0 (MQ below Qc args s mc ms free) (entryFrame m args maxL)) : Met l y ws rm Pc Qc mc ms free := by
  refine MetFree.of_bodySF (code := cc) (maxLocals := maxL) (ret := ret) hy ?_ ?_
  · intro args s m h hn
    obtain ⟨meth, c, h1, h2, h3, h4, h5, h6, -, -⟩ := Cond.code_spec hn (atoms_spec (ws := ws) h _ (by rw [hw]; exact List.mem_cons_self))
    exact ⟨meth, c, h1, h2, h3, h4, h5, h6⟩
  · intro p e s m args below meth c s₁ B hml hP _
    have hh0 : s₁.heap = s.heap := by rw [B.state]; rfl
    obtain ⟨t, a1, o, b1, b2, b3⟩ := body p e s m args below meth c s₁ B hml hP s₁ hh0 (Stand.of_body B)
    exact ⟨t, o, a1, b1, b2, ⟨b3.1, b3.2⟩⟩
/-- a contract out of a walk from the entry -/
theorem sk_met {g : sk_G} {d ck sk : Nat} {X : sk_X} {as : List sk_V} {M : sk_M} {Q : sk_P} (hg : sk_ok g) (hy : plainFor X.1 = true) (hn : (sk_ent as).length ≤ X.2.2.1) (h : sk_call g d ck sk X as M Q) :
    Met g.1 X.1 [Cond.code X.1 X.2.1 X.2.2.1 X.2.2.2] (sk_R d ck sk) (sk_Pc g as M) (sk_Q g Q) ck sk (sk_fr g) := by
  refine sk_ofW (cc := X.2.1) (maxL := X.2.2.1) (ret := X.2.2.2) hy rfl ?_
  intro p e s m args below meth c s₁ B hml hv
  obtain ⟨rfl, hH, hW⟩ := hv
  have hl := lv_entry (as.map sk_val) (n := X.2.2.1) (by rw [sk_ent_len]; exact hn)
  rw [lg_entry_eq]
  refine h p e s m _ below meth c s.heap [] 0 0 ck sk _ ⟨B.exec, B.bytes, B.returns, hml, B.notSynchronized, findClass_of_methodNamed B.named, (name_of_methodNamed B.named B.method).1, hW, hg⟩ (Nat.le_of_eq (Nat.zero_add _)) (Nat.le_of_eq (Nat.zero_add _)) hH (fun q hq => by cases hq) ?_
  rw [sk_lv_pad, sk_lv_ent]
  exact hl
theorem sk_blind (g : sk_G) (as : List sk_V) (M : sk_M) : FrameBlind (sk_Pc g as M) := fun a U fr mk q => by
  obtain ⟨q0, q1, q2⟩ := q
  exact ⟨q0, q1, q2⟩
/-! ===== calls ===== -/
def sk_pop : Nat → List sk_V → List sk_V → Option (List sk_V × List sk_V)
  | 0, acc, st => some (acc, st)
  | n + 1, acc, v :: st => sk_pop n (v :: acc) st
  | _ + 1, _, [] => none
theorem sk_pop_spec : ∀ (n : Nat) (acc st as r : List sk_V), sk_pop n acc st = some (as, r) → as.length = n + acc.length ∧ as.reverse ++ r = acc.reverse ++ st
  | 0, acc, st, as, r, h => by simp [sk_pop] at h; obtain ⟨rfl, rfl⟩ := h; simp
  | n + 1, acc, v :: st, as, r, h => by
    obtain ⟨h1, h2⟩ := sk_pop_spec n (v :: acc) st as r h
    exact ⟨by rw [h1]; simp; omega, by rw [h2]; simp⟩
  | n + 1, acc, [], as, r, h => by simp [sk_pop] at h
def sk_cat : sk_V → Nat
  | .inr (.inl _) => 2
  | _ => 1
def sk_wt : List sk_V → Nat
  | [] => 0
  | v :: r => sk_cat v + sk_wt r
theorem sk_wt_eq : ∀ r : List sk_V, ((r.map sk_val).map fun v => v.category).sum = sk_wt r
  | [] => rfl
  | .inl x :: r => by have := sk_wt_eq r; simp [sk_wt, sk_cat, sk_val, Value.category] at *; omega
  | .inr (.inl x) :: r => by have := sk_wt_eq r; simp [sk_wt, sk_cat, sk_val, Value.category] at *; omega
  | .inr (.inr none) :: r => by have := sk_wt_eq r; simp [sk_wt, sk_cat, sk_val, va_rf, Value.category] at *; omega
  | .inr (.inr (some a)) :: r => by have := sk_wt_eq r; simp [sk_wt, sk_cat, sk_val, va_rf, Value.category] at *; omega
def sk_tl : Option sk_V → List sk_V → List sk_V
  | none, r => r
  | some v, r => v :: r
theorem sk_tl_map (v : Option sk_V) (r : List sk_V) : (sk_tl v r).map sk_val = (v.map sk_val).toList ++ r.map sk_val := by cases v <;> rfl
/-- what is static of a method: code and start in the tables, the number of its parameters -/
def sk_mok (X : sk_X) (n : Nat) : Prop := Cond.code X.1 X.2.1 X.2.2.1 X.2.2.2 ∈ lw_tbl ∧ Cond.initialized X.1.cls ∈ lw_tbl ∧ plainFor X.1 = true ∧ X.1.cls ≠ "java/lang/invoke/MethodHandle" ∧ X.1.cls ≠ "java/lang/invoke/VarHandle" ∧ (parseMethodDescriptor X.1.desc).map (fun d => d.parameters.length) = some n ∧ X.2.2.1 ≤ 61
theorem sk_callB {g : sk_G} {X : sk_X} {n d mc ms ck sk index : Nat} {s : State} {args : Array Value} {own : String} (hm : sk_mok X n) (hg : sk_ok g) (hW : g.2.1.WarmedH s.vm) (hd : 1 ≤ d) (hl : Cond.methodLink own index X.1 ∈ lw_tbl) : CallB (sk_R d mc ms) s args own index X.1 X.2.1 X.2.2.1 X.2.2.2 [Cond.code X.1 X.2.1 X.2.2.1 X.2.2.2] (sk_R (d - 1) ck sk) ck sk n := by
  obtain ⟨h1, h2, h3, h4, h5, h6, h7⟩ := hm
  refine ⟨rfl, rfl, ?_, ?_, ?_, List.mem_cons_self, sk_use h1 rfl hg hW args, sk_use h2 rfl hg hW args, ⟨h4, h5⟩, fun sig h => ?_, sk_use hl rfl hg hW args⟩
  · show d - 1 + 1 ≤ d; omega
  · show 8 + (X.2.2.1 + 11) + 80 * (d - 1) ≤ 80 * d; omega
  · intro w hw a' U hU
    have hw' : w = Cond.code X.1 X.2.1 X.2.2.1 X.2.2.2 := by simpa using hw
    subst hw'
    exact sk_use h1 rfl hg (State.WarmedH.trans hW hU) a'
  · rw [h] at h6
    exact (Option.some.inj h6).symm
/-- on with the caller behind a call -/
theorem sk_back {w w' : sk_W} {pc : Nat} {L : List (Option sk_V)} {r : List sk_V} {k : sk_K} {p : Program} {e : Env} {s : State} {m : MethodId} {args : Array Value} {below : List Frame} {meth : Method} {c : Code} {H : Heap} {locs : List Loc} {cells slots mc ms ck sk : Nat} {ls : Array Slot} {st0 : List Value} {a : Array Value}
    (hw : w' = (w.1, w.2.1, w.2.2.1 - ck, w.2.2.2.1 - sk, w.2.2.2.2.1, w.2.2.2.2.2)) (hck : ck ≤ w.2.2.1) (hsk : sk ≤ w.2.2.2.1) (hk : sk_S w' (pc + 3) k)
    (hr : va_Run p w.1.1 e (sk_R w.2.1 mc ms) s m args below meth c H locs cells slots ck sk (F0 m pc ls st0) (r.map sk_val) (sk_Q w.1 (fun v M' => k L (sk_tl v r) M') a) (sk_fr w.1))
    (hC : sk_Cx w.1 w.2.2.2.2.1 p s m meth c) (h1 : cells + w.2.2.1 ≤ mc) (h2 : slots + w.2.2.2.1 ≤ ms) (hLo : sk_Lo w.1 locs) (hl : lv_has ls w.2.2.2.2.1.2.2.1 (sk_lv 0 L)) :
    W p w.1.1 e (sk_R w.2.1 mc ms) s m args below meth c H locs cells slots (MQ below (sk_Q w.1 w.2.2.2.2.2) args s mc ms (sk_fr w.1)) (F0 m pc ls st0) := by
  intro T hT X
  obtain ⟨v, st₀, t, T', L', h0, X', hL, e1, e2, ⟨v', M', hv, hH', hW', hq⟩, st⟩ := hr T hT X
  cases hv
  subst hw
  obtain ⟨t2, a1, b1⟩ := hk _ _ _ hq p e s m args below meth c T'.heap (locs ++ L') (cells + ck) (slots + sk) mc ms ls hC (by show cells + ck + (w.2.2.1 - ck) ≤ mc; omega) (by show slots + sk + (w.2.2.2.1 - sk) ≤ ms; omega) (by rw [e1]; exact hH') (fun q hq => (List.mem_append.mp hq).elim (hLo q) (hL q)) hl T' rfl X'
  rw [sk_tl_map] at a1
  exact ⟨t2, st t2 a1, b1⟩
/-- invokevirtual of a method of kind ci with n parameters, which makes at most ck cells of sk slots -/
def o_invB (w : sk_W) (X : sk_X) (n ci ck sk : Nat) (k : sk_K) : sk_K := fun L st M => match sk_pop (n + 1) [] st with
  | some (.inr (.inr (some a)) :: as, r) => (M.2 a).1 = ci ∧ sk_wt r ≤ 8 ∧ 1 ≤ w.2.1 ∧ ck ≤ w.2.2.1 ∧ sk ≤ w.2.2.2.1 ∧ (sk_ent (.inr (.inr (some a)) :: as)).length ≤ X.2.2.1 ∧ sk_call w.1 (w.2.1 - 1) ck sk X (.inr (.inr (some a)) :: as) M (fun v M' => k L (sk_tl v r) M')
  | _ => False
/-- invokestatic -/
def o_stcB (w : sk_W) (X : sk_X) (n ck sk : Nat) (k : sk_K) : sk_K := fun L st M => match sk_pop n [] st with
  | some (as, r) => sk_wt r ≤ 8 ∧ 1 ≤ w.2.1 ∧ ck ≤ w.2.2.1 ∧ sk ≤ w.2.2.2.1 ∧ (sk_ent as).length ≤ X.2.2.1 ∧ sk_call w.1 (w.2.1 - 1) ck sk X as M (fun v M' => k L (sk_tl v r) M')
  | _ => False
/-- invokespecial of a constructor -/
def o_iniB (w : sk_W) (X : sk_X) (n ck sk : Nat) (k : sk_K) : sk_K := fun L st M => match sk_pop (n + 1) [] st with
  | some (.inr (.inr (some a)) :: as, r) => sk_wt r ≤ 8 ∧ 1 ≤ w.2.1 ∧ ck ≤ w.2.2.1 ∧ sk ≤ w.2.2.2.1 ∧ (sk_ent (.inr (.inr (some a)) :: as)).length ≤ X.2.2.1 ∧ sk_call w.1 (w.2.1 - 1) ck sk X (.inr (.inr (some a)) :: as) M (fun v M' => k L (sk_tl v r) M')
  | _ => False
section CALL
variable {w w' : sk_W} {pc : Nat} {k : sk_K} {X : sk_X} {n ci ck sk index N : Nat} {T : u_T}
theorem sk_stack {a : Nat} {as r st : List sk_V} {n : Nat} (h : sk_pop (n + 1) [] st = some (.inr (.inr (some a)) :: as, r)) : as.length = n ∧ st.map sk_val = (as.map sk_val).reverse ++ .ref a :: r.map sk_val := by
  obtain ⟨h1, h2⟩ := sk_pop_spec _ _ _ _ _ h
  refine ⟨by simpa using h1, ?_⟩
  have h3 := congrArg (List.map sk_val) h2
  simp only [List.reverse_cons, List.append_assoc, List.map_append, List.map_reverse, List.map_cons, List.map_nil, List.reverse_nil, List.nil_append] at h3
  exact h3.symm
theorem s_invB (hd : decode (sk_bc w) pc = .ok (.invokevirtual index, 3)) (hm : sk_mok X n) (hc : vwCl[ci]? = some (X.1.cls, T, N)) (hci : ci < 20) (hl : Cond.methodLink w.2.2.2.2.1.1.cls index X.1 ∈ lw_tbl) (hin : Cond.instanceMethod X.1 ∈ lw_tbl) (hse : Cond.selects X.1.cls X.1 X.1 ∈ lw_tbl)
    (hw : w' = (w.1, w.2.1, w.2.2.1 - ck, w.2.2.2.1 - sk, w.2.2.2.2.1, w.2.2.2.2.2)) (hk : sk_S w' (pc + 3) k) : sk_S w pc (o_invB w X n ci ck sk k) := by
  intro L st M h
  unfold o_invB at h
  split at h
  next a as r hp =>
    obtain ⟨ha, hwt, hdd, hck, hsk, hen, hcall⟩ := h
    obtain ⟨hlen, hst⟩ := sk_stack hp
    intro p e s m args below meth c H locs cells slots mc ms ls hC h1 h2 hH hLo hl'
    have hC0 := hC
    obtain ⟨hx, hb, -, hml, -, hown, -, hW, hg⟩ := hC
    obtain ⟨⟨cell, q1, q2, q3, q4⟩, -⟩ := sk_obj (s := s) hH hc hci ha
    have hcls := ((hg.1.moved hW.alike).1 ci _ hc).2
    rw [hst]
    refine sk_back (a := (Value.ref a :: as.map sk_val).toArray) hw hck hsk hk (va_runV (Ts := []) (As := as.map sk_val) (b := a) (C := X.1.cls) ⟨hx, hb, hml, hown, fun w h => by cases h⟩ (sk_met hg hm.2.2.1 hen hcall) ⟨sk_callB hm hg hW hdd hl, sk_use hin rfl hg hW args, sk_use hse rfl hg hW args⟩ ⟨sk_blind _ _ _, ⟨cell, q1, by rw [q3]; rfl, by rw [q2]; exact hcls.1⟩, fun U hU hWU => ⟨rfl, by rw [hU]; exact hH, State.WarmedH.trans hW hWU⟩⟩ rfl (by simpa using hlen) hl'.1 rfl (lv_room (by rw [sk_wt_eq]; exact hwt)) hd ⟨by show cells + ck ≤ mc; omega, by show slots + sk ≤ ms; omega⟩) hC0 h1 h2 hLo hl'
  next => exact h.elim
theorem s_stcB (hd : decode (sk_bc w) pc = .ok (.invokestatic index, 3)) (hm : sk_mok X n) (hl : Cond.methodLink w.2.2.2.2.1.1.cls index X.1 ∈ lw_tbl) (hst : Cond.static X.1 ∈ lw_tbl)
    (hw : w' = (w.1, w.2.1, w.2.2.1 - ck, w.2.2.2.1 - sk, w.2.2.2.2.1, w.2.2.2.2.2)) (hk : sk_S w' (pc + 3) k) : sk_S w pc (o_stcB w X n ck sk k) := by
  intro L st M h
  unfold o_stcB at h
  split at h
  next as r hp =>
    obtain ⟨hwt, hdd, hck, hsk, hen, hcall⟩ := h
    obtain ⟨hlen, hsp⟩ := sk_pop_spec _ _ _ _ _ hp
    have hst' : st.map sk_val = (as.map sk_val).reverse ++ r.map sk_val := by
      have h3 := congrArg (List.map sk_val) hsp
      simp only [List.map_append, List.map_reverse, List.reverse_nil, List.nil_append] at h3
      exact h3.symm
    intro p e s m args below meth c H locs cells slots mc ms ls hC h1 h2 hH hLo hl'
    have hC0 := hC
    obtain ⟨hx, hb, -, hml, -, hown, -, hW, hg⟩ := hC
    rw [hst']
    refine sk_back (a := (as.map sk_val).toArray) hw hck hsk hk (va_runS (Ts := []) (As := as.map sk_val) ⟨hx, hb, hml, hown, fun w h => by cases h⟩ (sk_met hg hm.2.2.1 hen hcall) ⟨sk_callB hm hg hW hdd hl, sk_use hst rfl hg hW args⟩ ⟨sk_blind _ _ _, fun U hU hWU => ⟨rfl, by rw [hU]; exact hH, State.WarmedH.trans hW hWU⟩⟩ rfl (by simpa using hlen) hl'.1 rfl (lv_room (by rw [sk_wt_eq]; exact hwt)) hd ⟨by show cells + ck ≤ mc; omega, by show slots + sk ≤ ms; omega⟩) hC0 h1 h2 hLo hl'
  next => exact h.elim
theorem s_iniB (hd : decode (sk_bc w) pc = .ok (.invokespecial index, 3)) (hm : sk_mok X n) (hr : X.2.2.2 = none) (hy1 : X.1.name = "<init>") (hl : Cond.methodLink w.2.2.2.2.1.1.cls index X.1 ∈ lw_tbl) (hin : Cond.instanceMethod X.1 ∈ lw_tbl)
    (hw : w' = (w.1, w.2.1, w.2.2.1 - ck, w.2.2.2.1 - sk, w.2.2.2.2.1, w.2.2.2.2.2)) (hk : sk_S w' (pc + 3) k) : sk_S w pc (o_iniB w X n ck sk k) := by
  intro L st M h
  unfold o_iniB at h
  split at h
  next a as r hp =>
    obtain ⟨hwt, hdd, hck, hsk, hen, hcall⟩ := h
    obtain ⟨hlen, hst⟩ := sk_stack hp
    intro p e s m args below meth c H locs cells slots mc ms ls hC h1 h2 hH hLo hl'
    have hC0 := hC
    obtain ⟨hx, hb, -, hml, -, hown, -, hW, hg⟩ := hC
    rw [hst]
    have hB := sk_callB (args := args) (mc := mc) (ms := ms) (ck := ck) (sk := sk) hm hg hW hdd hl
    have hM := sk_met hg hm.2.2.1 hen hcall
    rw [hr] at hB hM
    refine sk_back (a := (Value.ref a :: as.map sk_val).toArray) hw hck hsk hk (va_runI (Ts := []) (As := as.map sk_val) (b := a) ⟨hx, hb, hml, hown, fun w h => by cases h⟩ hM ⟨hB, hy1, sk_use hin rfl hg hW args⟩ ⟨sk_blind _ _ _, fun U hU hWU => ⟨rfl, by rw [hU]; exact hH, State.WarmedH.trans hW hWU⟩⟩ rfl (by simpa using hlen) hl'.1 rfl (lv_room (by rw [sk_wt_eq]; exact hwt)) hd ⟨by show cells + ck ≤ mc; omega, by show slots + sk ≤ ms; omega⟩) hC0 h1 h2 hLo hl'
  next => exact h.elim
theorem s_iniN {host : String} (hd : decode (sk_bc w) pc = .ok (.invokespecial index, 3)) (hm : sk_mok X n) (hr : X.2.2.2 = none) (hy1 : X.1.name = "<init>") (hl : Cond.methodLinkNest w.2.2.2.2.1.1.cls index X.1 host ∈ lw_tbl) (hin : Cond.instanceMethod X.1 ∈ lw_tbl)
    (hw : w' = (w.1, w.2.1, w.2.2.1 - ck, w.2.2.2.1 - sk, w.2.2.2.2.1, w.2.2.2.2.2)) (hk : sk_S w' (pc + 3) k) : sk_S w pc (o_iniB w X n ck sk k) := by
  intro L st M h
  unfold o_iniB at h
  split at h
  next a as r hp =>
    obtain ⟨hwt, hdd, hck, hsk, hen, hcall⟩ := h
    obtain ⟨hlen, hst⟩ := sk_stack hp
    intro p e s m args below meth c H locs cells slots mc ms ls hC h1 h2 hH hLo hl'
    have hC0 := hC
    obtain ⟨hx, hb, -, hml, -, hown, -, hW, hg⟩ := hC
    rw [hst]
    have hM := sk_met hg hm.2.2.1 hen hcall
    rw [hr] at hM
    obtain ⟨m1, m2, m3, m4, m5, m6, m7⟩ := hm
    rw [hr] at m1
    have hN : va_CN (sk_R w.2.1 mc ms) s args w.2.2.2.2.1.1.cls index X.1 host X.2.1 X.2.2.1 none [Cond.code X.1 X.2.1 X.2.2.1 none] (sk_R (w.2.1 - 1) ck sk) ck sk n := by
      refine ⟨⟨rfl, rfl, ?_, ?_, ?_, List.mem_cons_self⟩, sk_use m1 rfl hg hW args, sk_use m2 rfl hg hW args, ⟨m4, m5⟩, fun sig h => ?_, va_Nw.use rfl (sk_useM hl hg hW)⟩
      · show w.2.1 - 1 + 1 ≤ w.2.1; omega
      · show 8 + (X.2.2.1 + 11) + 80 * (w.2.1 - 1) ≤ 80 * w.2.1; omega
      · intro x hx a' U hU
        have hx' : x = Cond.code X.1 X.2.1 X.2.2.1 none := by simpa using hx
        subst hx'
        exact sk_use m1 rfl hg (State.WarmedH.trans hW hU) a'
      · rw [h] at m6
        exact (Option.some.inj m6).symm
    refine sk_back (a := (Value.ref a :: as.map sk_val).toArray) hw hck hsk hk (va_runIN (Ts := []) (As := as.map sk_val) (b := a) ⟨hx, hb, hml, hown, fun w h => by cases h⟩ hM ⟨hN, hy1, sk_use hin rfl hg hW args⟩ ⟨sk_blind _ _ _, fun U hU hWU => ⟨rfl, by rw [hU]; exact hH, State.WarmedH.trans hW hWU⟩⟩ rfl (by simpa using hlen) hl'.1 rfl (lv_room (by rw [sk_wt_eq]; exact hwt)) hd ⟨by show cells + ck ≤ mc; omega, by show slots + sk ≤ ms; omega⟩) hC0 h1 h2 hLo hl'
  next => exact h.elim
end CALL
