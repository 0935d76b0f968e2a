/-! ===== a judgement with any end, for the walks that throw ===== -/
abbrev sk_PM : Type := List Frame → Array Value → State → Nat → Nat → State → Prop
def sk_BG (E : State → Code → Prop) (PM : sk_PM) (w : sk_W) (pc : Nat) : sk_K := fun L st M =>
  ∀ (p : Program) (e : Env) (s : State) (m : MethodId) (args : Array Value) (below : List Frame) (meth : Method) (c : Code) (H : Heap) (locs : List Loc) (cells slots mc ms : Nat) (ls : Array Slot),
    sk_Cx w.1 w.2.2.2.2.1 p s m meth c → E s c → cells + w.2.2.1 ≤ mc → slots + w.2.2.2.1 ≤ ms → sk_H w.1 M H → sk_Lo w.1 locs → lv_has ls w.2.2.2.2.1.2.2.1 (sk_lv 0 L) →
    W p w.1.1 e (sk_R w.2.1 mc ms) s m args below meth c H locs cells slots (PM below args s mc ms) (F0 m pc ls (st.map sk_val))
section GEN
variable {E : State → Code → Prop} {PM : sk_PM} {w : sk_W} {pc pc' : Nat} {L : List (Option sk_V)} {st st' r : List sk_V} {M : sk_M}
theorem sg_stk (hW : ∀ (p : Program) (e : Env) (s : State) (m : MethodId) (args : Array Value) (below : List Frame) (meth : Method) (c : Code) (H : Heap) (locs : List Loc) (cells slots : Nat) (R : Room) (Q : State → Prop) (ls : Array Slot),
      sk_Cx w.1 w.2.2.2.2.1 p s m meth c → lv_has ls w.2.2.2.2.1.2.2.1 (sk_lv 0 L) → W p w.1.1 e R s m args below meth c H locs cells slots Q (F0 m pc' ls (st'.map sk_val)) → W p w.1.1 e R s m args below meth c H locs cells slots Q (F0 m pc ls (st.map sk_val)))
    (k : sk_BG E PM w pc' L st' M) : sk_BG E PM w pc L st M := by
  intro p e s m args below meth c H locs cells slots mc ms ls hC hE h1 h2 hH hLo hl
  exact hW p e s m args below meth c H locs cells slots _ _ ls hC hl (k p e s m args below meth c H locs cells slots mc ms ls hC hE h1 h2 hH hLo hl)
theorem sg_two {A B : Prop} {p1 p2 : Nat} (hW : ∀ (p : Program) (e : Env) (s : State) (m : MethodId) (args : Array Value) (below : List Frame) (meth : Method) (c : Code) (H : Heap) (locs : List Loc) (cells slots : Nat) (R : Room) (Q : State → Prop) (ls : Array Slot),
      sk_Cx w.1 w.2.2.2.2.1 p s m meth c → (A → W p w.1.1 e R s m args below meth c H locs cells slots Q (F0 m p1 ls (st'.map sk_val))) → (B → W p w.1.1 e R s m args below meth c H locs cells slots Q (F0 m p2 ls (st'.map sk_val))) → W p w.1.1 e R s m args below meth c H locs cells slots Q (F0 m pc ls (st.map sk_val)))
    (ka : A → sk_BG E PM w p1 L st' M) (kb : B → sk_BG E PM w p2 L st' M) : sk_BG E PM w pc L st M := by
  intro p e s m args below meth c H locs cells slots mc ms ls hC hE h1 h2 hH hLo hl
  exact hW p e s m args below meth c H locs cells slots _ _ ls hC (fun a => ka a p e s m args below meth c H locs cells slots mc ms ls hC hE h1 h2 hH hLo hl) (fun b => kb b p e s m args below meth c H locs cells slots mc ms ls hC hE h1 h2 hH hLo hl)
theorem sg_iconst {n : Int} (hd : decode (sk_bc w) pc = .ok (.iconst n, 1)) (k : sk_BG E PM w (pc + 1) L (.inl n :: st) M) : sk_BG E PM w pc L st M :=
  sg_stk (fun _ _ _ _ _ _ _ _ _ _ _ _ _ _ _ hC _ kk => lv_iconst hC.1 hC.2.1 hd rfl kk) k
theorem sg_iload_n {n : Fin 4} {x : Int} (hd : decode (sk_bc w) pc = .ok (.iload_n n, 1)) (hx : sk_nth L (n : Nat) = some (some (.inl x))) (k : sk_BG E PM w (pc + 1) L (.inl x :: st) M) : sk_BG E PM w pc L st M :=
  sg_stk (fun _ _ _ _ _ _ _ _ _ _ _ _ _ _ _ hC hl kk => lv_iload_n hC.1 hC.2.1 hd rfl (sk_loc hl hx) kk) k
theorem sg_aload_n {n : Fin 4} {a : Nat} (hd : decode (sk_bc w) pc = .ok (.aload_n n, 1)) (hx : sk_nth L (n : Nat) = some (some (.inr (.inr (some a))))) (k : sk_BG E PM w (pc + 1) L (.inr (.inr (some a)) :: st) M) : sk_BG E PM w pc L st M :=
  sg_stk (fun _ _ _ _ _ _ _ _ _ _ _ _ _ _ _ hC hl kk => lv_aload_n hC.1 hC.2.1 hd rfl (sk_loc hl hx) kk) k
theorem sg_ifeq {off x : Int} {tgt : Nat} (hd : decode (sk_bc w) pc = .ok (.ifCond .eq off, 3)) (ht : (pc : Int) + off = (tgt : Int)) (k1 : sk_w x = 0 → sk_BG E PM w tgt L st M) (k2 : sk_w x ≠ 0 → sk_BG E PM w (pc + 3) L st M) : sk_BG E PM w pc L (.inl x :: st) M := by
  refine sg_two (fun _ _ _ _ _ _ _ _ _ _ _ _ _ _ _ hC ka kb => lv_if_eq hC.1 hC.2.1 hd ht (fun hc => ka ?_) (fun hc => kb ?_)) k1 k2
  · simp only [sk_eq0, ne_eq] at hc ⊢
    omega
  · simp only [sk_eq0, ne_eq] at hc ⊢
    omega
theorem sg_iflt {off x : Int} {tgt : Nat} (hd : decode (sk_bc w) pc = .ok (.ifCond .lt off, 3)) (ht : (pc : Int) + off = (tgt : Int)) (k1 : sk_w x < 0 → sk_BG E PM w tgt L st M) (k2 : 0 ≤ sk_w x → sk_BG E PM w (pc + 3) L st M) : sk_BG E PM w pc L (.inl x :: st) M := by
  refine sg_two (fun _ _ _ _ _ _ _ _ _ _ _ _ _ _ _ hC ka kb => lv_if_lt hC.1 hC.2.1 hd ht (fun hc => ka ?_) (fun hc => kb ?_)) k1 k2
  · simp only [sk_eq0, sk_lt0, sk_le0, sk_0lt, sk_0le, ne_eq] at hc ⊢
    omega
  · simp only [sk_eq0, sk_lt0, sk_le0, sk_0lt, sk_0le, ne_eq] at hc ⊢
    omega
theorem sg_icle {off x y : Int} {tgt : Nat} (hd : decode (sk_bc w) pc = .ok (.if_icmp .le off, 3)) (ht : (pc : Int) + off = (tgt : Int)) (k1 : sk_w x ≤ sk_w y → sk_BG E PM w tgt L st M) (k2 : sk_w y < sk_w x → sk_BG E PM w (pc + 3) L st M) : sk_BG E PM w pc L (.inl y :: .inl x :: st) M := by
  refine sg_two (fun _ _ _ _ _ _ _ _ _ _ _ _ _ _ _ hC ka kb => lv_icmp_le hC.1 hC.2.1 hd ht (fun hc => ka ?_) (fun hc => kb ?_)) k1 k2
  · simp only [sk_eqI, sk_ltI, sk_leI, ne_eq] at hc ⊢
    omega
  · simp only [sk_eqI, sk_ltI, sk_leI, ne_eq] at hc ⊢
    omega
theorem sg_getf {ci j index N a : Nat} {C : String} {T : u_T} (hd : decode (sk_bc w) pc = .ok (.getfield index, 3)) (hc : vwCl[ci]? = some (C, T, N)) (hj : j < N) (hci : ci < 20)
    (hl : Cond.fieldLink w.2.2.2.2.1.1.cls index (T j).1 (T j).2.1 (T j).2.2.1 ∈ lw_tbl) (ha : (M.2 a).1 = ci) (k : sk_BG E PM w (pc + 3) L ((M.2 a).2.2 j :: st) M) : sk_BG E PM w pc L (.inr (.inr (some a)) :: st) M := by
  intro p e s m args below meth c H locs cells slots mc ms ls hC hE h1 h2 hH hLo hl'
  have hC0 := hC
  obtain ⟨hx, hb, -, -, -, hown, -, hW, hg⟩ := hC
  obtain ⟨⟨cell, q1, q2, q3, q4⟩, -⟩ := sk_obj (s := s) hH hc hci ha
  obtain ⟨hS, hfc, kC, hkC, hkind⟩ := (hg.1.moved hW.alike).1 ci _ hc
  obtain ⟨cf, kf, fi, f, hi, hsl⟩ := hS j hj
  have hts := sk_lays hc hg hW args
  refine W.getf hx hb hown (sk_use hl rfl hg hW args) hi (u_facts hfc hkC (u_lays hts (fun _ h => h) hj) hi).1 q1 (by rw [q3]; exact fun h => by cases h) (v := sk_val ((M.2 a).2.2 j)) (by rw [hsl]; exact q4 j hj) rfl rfl hd ?_
  exact k p e s m args below meth c H locs cells slots mc ms ls hC0 hE h1 h2 hH hLo hl'
/-- a call that changes nothing and answers v -/
theorem sg_inv {X : sk_X} {n ci N index a : Nat} {T : u_T} {as : List sk_V} {v : sk_V} (hd : decode (sk_bc w) pc = .ok (.invokevirtual index, 3)) (hm : sk_mok X n) (hc : vwCl[ci]? = some (X.1.cls, T, N)) (hci : ci < 20) (hl : Cond.methodLink w.2.2.2.2.1.1.cls index X.1 ∈ lw_tbl) (hin : Cond.instanceMethod X.1 ∈ lw_tbl) (hse : Cond.selects X.1.cls X.1 X.1 ∈ lw_tbl)
    (hst : st.map sk_val = (as.map sk_val).reverse ++ .ref a :: r.map sk_val) (hlen : as.length = n) (ha : (M.2 a).1 = ci) (hwt : sk_wt r ≤ 8) (hdd : 1 ≤ w.2.1) (hen : (sk_ent (.inr (.inr (some a)) :: as)).length ≤ X.2.2.1)
    (hcall : sk_call w.1 (w.2.1 - 1) 0 0 X (.inr (.inr (some a)) :: as) M (fun v' M' => v' = some v ∧ M' = M)) (k : sk_BG E PM w (pc + 3) L (v :: r) M) : sk_BG E PM w pc L st M := by
  intro p e s m args below meth c H locs cells slots mc ms ls hC hE h1 h2 hH hLo hl'
  have hC0 := hC
  obtain ⟨hx, hb, -, hml, -, hown, -, hW, hg⟩ := hC
  obtain ⟨⟨cell, q1, q2, q3, q4⟩, -⟩ := sk_obj (s := s) hH hc hci ha
  have hcls := ((hg.1.moved hW.alike).1 ci _ hc).2
  rw [hst]
  have hr : va_Run p w.1.1 e (sk_R w.2.1 mc ms) s m args below meth c H locs cells slots 0 0 (F0 m pc ls ((as.map sk_val).reverse ++ .ref a :: r.map sk_val)) (r.map sk_val) (sk_Q w.1 (fun v' M' => v' = some v ∧ M' = M) (Value.ref a :: as.map sk_val).toArray) (sk_fr w.1) :=
    va_runV (Ts := []) (As := as.map sk_val) (b := a) (C := X.1.cls) ⟨hx, hb, hml, hown, fun w h => by cases h⟩ (sk_met hg hm.2.2.1 hen hcall) ⟨sk_callB hm hg hW hdd hl, sk_use hin rfl hg hW args, sk_use hse rfl hg hW args⟩ ⟨sk_blind _ _ _, ⟨cell, q1, by rw [q3]; rfl, by rw [q2]; exact hcls.1⟩, fun U hU hWU => ⟨rfl, by rw [hU]; exact hH, State.WarmedH.trans hW hWU⟩⟩ rfl (by simpa using hlen) hl'.1 rfl (lv_room (by rw [sk_wt_eq]; exact hwt)) hd ⟨by show cells + 0 ≤ mc; omega, by show slots + 0 ≤ ms; omega⟩
  intro T hT X
  obtain ⟨v', st₀, t, T', L', h0, X', hL, e1, e2, ⟨v2, M', hv, hH', hW', hq, hM⟩, st⟩ := hr T hT X
  cases hv
  subst hq
  subst hM
  obtain ⟨t2, a1, b1⟩ := k p e s m args below meth c T'.heap (locs ++ L') cells slots mc ms ls hC0 hE h1 h2 (by rw [e1]; exact hH') (fun q hq => (List.mem_append.mp hq).elim (hLo q) (hL q)) hl' T' rfl X'
  exact ⟨t2, st t2 a1, b1⟩
end GEN
