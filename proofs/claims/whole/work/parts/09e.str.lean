/-! ===== texts: the JDK's own length and indexOf, walked ===== -/
section STRA
variable {w : sk_W} {pc : Nat} {k : sk_K} {index n : Nat} {X : sk_X}
/-- what is known of a text, at every heap of the run -/
theorem sk_txt {g : sk_G} {M : sk_M} {H : Heap} {s : State} {i : Nat} (hg : sk_ok g) (hH : sk_H g M H) (hW : g.2.1.WarmedH s.vm) (hi : i < 7) : va_O "java/lang/String" (g.2.2.2.2 (10 + i)) (fun q => sk_base g ≤ q) s H ∧ va_OF "java/lang/String" "coder" "B" (.int 0) (g.2.2.2.2 (10 + i)) (fun q => sk_base g ≤ q) s H ∧ va_OF "java/lang/String" "value" "[B" (.ref (g.2.2.2.2 (20 + i))) (g.2.2.2.2 (10 + i)) (fun q => sk_base g ≤ q) s H ∧ va_T .byte (g.2.2.2.2 (20 + i)) (sk_sl.getD i 0) (fun j => .int ((sk_sb.getD i []).getD j 0)) (fun q => sk_base g ≤ q) s H := by
  obtain ⟨-, -, -, -, h, -⟩ := hg
  have hq : ∀ a : Nat, a < g.2.1.heap.size → ¬ sk_base g ≤ a → H[a]? = g.2.1.heap[a]? := fun a ha _ => hH.2.2.1 a ha
  obtain ⟨h1, h2, h3, h4⟩ := ((h.kept hq).moved hW.alike).1 i hi
  exact ⟨h1, h2, h3, h4⟩
def o_sval (w : sk_W) (k : sk_K) : sk_K := fun L st M => match st with
  | .inr (.inr (some a)) :: r => ∃ i : Nat, i < 7 ∧ a = w.1.2.2.2.2 (10 + i) ∧ k L (.inr (.inr (some (w.1.2.2.2.2 (20 + i)))) :: r) M
  | _ => False
theorem s_sval (hd : decode (sk_bc w) pc = .ok (.getfield index, 3)) (hl : Cond.fieldLink w.2.2.2.2.1.1.cls index "java/lang/String" "value" "[B" ∈ lw_tbl) (hk : sk_S w (pc + 3) k) : sk_S w pc (o_sval w k) := by
  intro L st M h
  unfold o_sval at h
  split at h
  next a r =>
    obtain ⟨i, hi, rfl, h⟩ := h
    intro p e s m args below meth c H locs cells slots mc ms ls hC g1 g2 hH hLo hl'
    have hkk := hk _ _ _ h p e s m args below meth c H locs cells slots mc ms ls hC g1 g2 hH hLo hl'
    obtain ⟨hx, hb, -, -, -, hown, -, hW, hg⟩ := hC
    obtain ⟨-, -, ⟨cf, kf, fi, f, cell, h1, h2, h3, h4, h5, h6⟩, -⟩ := sk_txt hg hH hW hi
    exact W.getf hx hb hown (sk_use hl rfl hg hW args) h1 h2 h3 h4 (v := .ref (w.1.2.2.2.2 (20 + i))) h5 rfl rfl hd hkk
  next => exact h.elim
def o_scod (w : sk_W) (k : sk_K) : sk_K := fun L st M => match st with
  | .inr (.inr (some a)) :: r => ∃ i : Nat, i < 7 ∧ a = w.1.2.2.2.2 (10 + i) ∧ k L (.inl 0 :: r) M
  | _ => False
theorem s_scod (hd : decode (sk_bc w) pc = .ok (.getfield index, 3)) (hl : Cond.fieldLink w.2.2.2.2.1.1.cls index "java/lang/String" "coder" "B" ∈ lw_tbl) (hk : sk_S w (pc + 3) k) : sk_S w pc (o_scod w k) := by
  intro L st M h
  unfold o_scod at h
  split at h
  next a r =>
    obtain ⟨i, hi, rfl, h⟩ := h
    intro p e s m args below meth c H locs cells slots mc ms ls hC g1 g2 hH hLo hl'
    have hkk := hk _ _ _ h p e s m args below meth c H locs cells slots mc ms ls hC g1 g2 hH hLo hl'
    obtain ⟨hx, hb, -, -, -, hown, -, hW, hg⟩ := hC
    obtain ⟨-, ⟨cf, kf, fi, f, cell, h1, h2, h3, h4, h5, h6⟩, -, -⟩ := sk_txt hg hH hW hi
    exact W.getf hx hb hown (sk_use hl rfl hg hW args) h1 h2 h3 h4 (v := .int 0) h5 rfl rfl hd hkk
  next => exact h.elim
theorem s_comp (hd : decode (sk_bc w) pc = .ok (.getstatic index, 3)) (hl : Cond.fieldLink w.2.2.2.2.1.1.cls index "java/lang/String" "COMPACT_STRINGS" "Z" ∈ lw_tbl) (hk : sk_S w (pc + 3) k) : sk_S w pc (o_i 1 k) := by
  intro L st M h p e s m args below meth c H locs cells slots mc ms ls hC h1 h2 hH hLo hl'
  have hkk := hk _ _ _ h p e s m args below meth c H locs cells slots mc ms ls hC h1 h2 hH hLo hl'
  obtain ⟨hx, hb, -, -, -, hown, -, hW, hg⟩ := hC
  obtain ⟨cf, kf, fi, f, a, cell, e1, e2, e3, e4, e5, e6, e7, e8⟩ := va_Z.moved hW.alike hg.2.2.2.2.2.2
  have ha : a < sk_base w.1 := Nat.not_le.mp e8
  exact W.gets hx hb hown (sk_use hl rfl hg hW args) e1 e2 e3 e4 ((hH.2.2.1 a ha).trans e5) (fun z => by rw [z] at e6; cases e6) e7 rfl hd hkk
def o_sbl (w : sk_W) (k : sk_K) : sk_K := fun L st M => match st with
  | .inr (.inr (some a)) :: r => ∃ i : Nat, i < 7 ∧ a = w.1.2.2.2.2 (20 + i) ∧ k L (.inl (sk_sl.getD i 0) :: r) M
  | _ => False
theorem s_sbl (hd : decode (sk_bc w) pc = .ok (.arraylength, 1)) (hk : sk_S w (pc + 1) k) : sk_S w pc (o_sbl w k) := by
  intro L st M h
  unfold o_sbl at h
  split at h
  next a r =>
    obtain ⟨i, hi, rfl, h⟩ := h
    intro p e s m args below meth c H locs cells slots mc ms ls hC g1 g2 hH hLo hl'
    have hkk := hk _ _ _ h p e s m args below meth c H locs cells slots mc ms ls hC g1 g2 hH hLo hl'
    obtain ⟨hx, hb, -, -, -, hown, -, hW, hg⟩ := hC
    obtain ⟨-, -, -, ⟨cell, h1, h2, h3, h4, h5, h6, h7⟩⟩ := sk_txt hg hH hW hi
    exact W.alen (n := Int32.ofInt ((sk_sl.getD i 0 : Nat) : Int)) hx hb h1 h2 (by rw [h5]; exact (Int32.ofInt_eq_ofNat).symm) rfl rfl hd hkk
  next => exact h.elim
def o_sbd (w : sk_W) (k : sk_K) : sk_K := fun L st M => match st with
  | .inl j :: .inr (.inr (some a)) :: r => ∃ i : Nat, i < 7 ∧ a = w.1.2.2.2.2 (20 + i) ∧ 0 ≤ sk_w j ∧ sk_w j < (sk_sl.getD i 0 : Nat) ∧ k L (.inl ((sk_sb.getD i []).getD (sk_w j).toNat 0).toInt :: r) M
  | _ => False
theorem s_sbd (hd : decode (sk_bc w) pc = .ok (.baload, 1)) (hk : sk_S w (pc + 1) k) : sk_S w pc (o_sbd w k) := by
  intro L st M h
  unfold o_sbd at h
  split at h
  next j a r =>
    obtain ⟨i, hi, rfl, j0, j1, h⟩ := h
    intro p e s m args below meth c H locs cells slots mc ms ls hC g1 g2 hH hLo hl'
    have hkk := hk _ _ _ h p e s m args below meth c H locs cells slots mc ms ls hC g1 g2 hH hLo hl'
    obtain ⟨hx, hb, -, -, -, hown, -, hW, hg⟩ := hC
    obtain ⟨-, -, -, ⟨cell, h1, h2, h3, h4, h5, h6, h7⟩⟩ := sk_txt hg hH hW hi
    have hlt : (sk_w j).toNat < sk_sl.getD i 0 := by omega
    refine W.bald (v := .int ((sk_sb.getD i []).getD (sk_w j).toNat 0)) hx hb h1 h2 h3 (sk_in j0 (by omega)) (by rw [sk_ix]; exact h6 _ hlt) rfl rfl hd ?_
    simpa only [List.map_cons, sk_val, Int32.ofInt_toInt] using hkk
  next => exact h.elim
def sk_i2b (x : Int) : Int := (Int32.ofInt x).toInt8.toInt32.toInt
def o_i2b (k : sk_K) : sk_K := fun L st M => match st with
  | .inl x :: r => k L (.inl (sk_i2b x) :: r) M
  | _ => False
theorem s_i2b (hd : decode (sk_bc w) pc = .ok (.i2b, 1)) (hk : sk_S w (pc + 1) k) : sk_S w pc (o_i2b k) := by
  intro L st M h
  unfold o_i2b at h
  split at h
  next x r => exact sk_stk (fun _ _ _ _ _ _ _ _ _ _ _ _ _ _ _ hC _ kk => lv_i2b hC.1 hC.2.1 hd rfl (by simpa only [List.map_cons, sk_val, sk_i2b, Int32.ofInt_toInt] using kk)) (hk _ _ _ h)
  next => exact h.elim
def o_bret (w : sk_W) : sk_K := fun _ st M => match st with
  | [.inl x] => x = 0 ∧ w.2.2.2.2.2 (some (.inl x)) M
  | _ => False
theorem s_bret (hd : decode (sk_bc w) pc = .ok (.ireturn, 1)) (hr : w.2.2.2.2.1.2.2.2 = some .byte) : sk_S w pc (o_bret w) := by
  intro L st M h
  unfold o_bret at h
  split at h
  next x =>
    intro p e s m args below meth c H locs cells slots mc ms ls hC h1 h2 hH hLo hl
    obtain ⟨rfl, h⟩ := h
    refine W.widen (k := mc) (n := ms) (by omega) (by omega) ?_
    exact W.zret (ty := .byte) hC.1 hC.2.1 (hC.2.2.1.trans hr) rfl (fun t ht hW => ⟨some (.inl 0), M, rfl, by rw [ht]; exact hH, State.WarmedH.trans hC.2.2.2.2.2.2.2.1 hW, h⟩) hLo hd hC.2.2.2.2.1
  next => exact h.elim
/-- a method of a text -/
def o_invS (w : sk_W) (X : sk_X) (n : Nat) (k : sk_K) : sk_K := fun L st M => match sk_pop (n + 1) [] st with
  | some (.inr (.inr (some a)) :: as, r) => (∃ i : Nat, i < 7 ∧ a = w.1.2.2.2.2 (10 + i)) ∧ sk_wt r ≤ 8 ∧ 1 ≤ w.2.1 ∧ (sk_ent (.inr (.inr (some a)) :: as)).length ≤ X.2.2.1 ∧ sk_call w.1 (w.2.1 - 1) 0 0 X (.inr (.inr (some a)) :: as) M (fun v M' => k L (sk_tl v r) M')
  | _ => False
theorem s_invS (hd : decode (sk_bc w) pc = .ok (.invokevirtual index, 3)) (hm : sk_mok X n) (hc : X.1.cls = "java/lang/String") (hl : Cond.methodLink w.2.2.2.2.1.1.cls index X.1 ∈ lw_tbl) (hin : Cond.instanceMethod X.1 ∈ lw_tbl) (hse : Cond.selects X.1.cls X.1 X.1 ∈ lw_tbl) (hk : sk_S w (pc + 3) k) : sk_S w pc (o_invS w X n k) := by
  intro L st M h
  unfold o_invS at h
  split at h
  next a as r hp =>
    obtain ⟨⟨i, hi, ha⟩, hwt, hdd, hen, hcall⟩ := h
    obtain ⟨hlen, hst⟩ := sk_stack hp
    intro p e s m args below meth c H locs cells slots mc ms ls hC h1 h2 hH hLo hl'
    have hC0 := hC
    obtain ⟨hx, hb, -, hml, -, hown, -, hW, hg⟩ := hC
    obtain ⟨⟨cell, q1, q2, q3, -⟩, -⟩ := sk_txt hg hH hW hi
    rw [← ha] at q1
    rw [hst]
    refine sk_back (a := (Value.ref a :: as.map sk_val).toArray) (ck := 0) (sk := 0) rfl (Nat.zero_le _) (Nat.zero_le _) hk (va_runV (Ts := []) (As := as.map sk_val) (b := a) (C := X.1.cls) ⟨hx, hb, hml, hown, fun w h => by cases h⟩ (sk_met hg hm.2.2.1 hen hcall) ⟨sk_callB hm hg hW hdd hl, sk_use hin rfl hg hW args, sk_use hse rfl hg hW args⟩ ⟨sk_blind _ _ _, ⟨cell, q1, q2, by rw [hc]; exact q3⟩, fun U hU hWU => ⟨rfl, by rw [hU]; exact hH, State.WarmedH.trans hW hWU⟩⟩ rfl (by simpa using hlen) hl'.1 rfl (lv_room (by rw [sk_wt_eq]; exact hwt)) hd ⟨by show cells + 0 ≤ mc; omega, by show slots + 0 ≤ ms; omega⟩) hC0 h1 h2 hLo hl'
  next => exact h.elim
end STRA
theorem qc_J0_coder_7d493 : Cond.code ⟨"java/lang/String", "coder", "()B"⟩ prog_22_method_152_code 1 (some .byte) ∈ lw_tbl := sk_tb2 _ (List.mem_of_getElem? (i := 180) (by decide +kernel))
theorem qc_J0_indexOf_0f7a4 : Cond.code ⟨"java/lang/String", "indexOf", "(I)I"⟩ prog_22_method_79_code 2 (some .int) ∈ lw_tbl := sk_tb2 _ (List.mem_of_getElem? (i := 191) (by decide +kernel))
theorem qc_J0_indexOf_7cf53 : Cond.code ⟨"java/lang/String", "indexOf", "(II)I"⟩ prog_22_method_80_code 3 (some .int) ∈ lw_tbl := sk_tb2 _ (List.mem_of_getElem? (i := 195) (by decide +kernel))
theorem qc_J0_isLatin1_aae02 : Cond.code ⟨"java/lang/String", "isLatin1", "()Z"⟩ prog_22_method_154_code 1 (some .boolean) ∈ lw_tbl := sk_tb2 _ (List.mem_of_getElem? (i := 199) (by decide +kernel))
theorem qc_J0_length_8abf5 : Cond.code ⟨"java/lang/String", "length", "()I"⟩ prog_22_method_54_code 1 (some .int) ∈ lw_tbl := sk_tb2 _ (List.mem_of_getElem? (i := 176) (by decide +kernel))
theorem qc_J1_canEncode_9a6ad : Cond.code ⟨"java/lang/StringLatin1", "canEncode", "(I)Z"⟩ prog_23_method_4_code 1 (some .boolean) ∈ lw_tbl := sk_tb2 _ (List.mem_of_getElem? (i := 206) (by decide +kernel))
theorem qc_J1_indexOfChar_4cfef : Cond.code ⟨"java/lang/StringLatin1", "indexOfChar", "([BIII)I"⟩ prog_23_method_23_code 6 (some .int) ∈ lw_tbl := sk_tb2 _ (List.mem_of_getElem? (i := 215) (by decide +kernel))
theorem qc_J1_indexOf_4cfef : Cond.code ⟨"java/lang/StringLatin1", "indexOf", "([BIII)I"⟩ prog_23_method_22_code 4 (some .int) ∈ lw_tbl := sk_tb2 _ (List.mem_of_getElem? (i := 203) (by decide +kernel))
theorem qe_J0_coder_7d493 : Cond.selects "java/lang/String" ⟨"java/lang/String", "coder", "()B"⟩ ⟨"java/lang/String", "coder", "()B"⟩ ∈ lw_tbl := sk_tb2 _ (List.mem_of_getElem? (i := 179) (by decide +kernel))
theorem qe_J0_indexOf_0f7a4 : Cond.selects "java/lang/String" ⟨"java/lang/String", "indexOf", "(I)I"⟩ ⟨"java/lang/String", "indexOf", "(I)I"⟩ ∈ lw_tbl := sk_tb2 _ (List.mem_of_getElem? (i := 190) (by decide +kernel))
theorem qe_J0_indexOf_7cf53 : Cond.selects "java/lang/String" ⟨"java/lang/String", "indexOf", "(II)I"⟩ ⟨"java/lang/String", "indexOf", "(II)I"⟩ ∈ lw_tbl := sk_tb2 _ (List.mem_of_getElem? (i := 194) (by decide +kernel))
theorem qe_J0_isLatin1_aae02 : Cond.selects "java/lang/String" ⟨"java/lang/String", "isLatin1", "()Z"⟩ ⟨"java/lang/String", "isLatin1", "()Z"⟩ ∈ lw_tbl := sk_tb2 _ (List.mem_of_getElem? (i := 198) (by decide +kernel))
theorem qe_J0_length_8abf5 : Cond.selects "java/lang/String" ⟨"java/lang/String", "length", "()I"⟩ ⟨"java/lang/String", "length", "()I"⟩ ∈ lw_tbl := sk_tb2 _ (List.mem_of_getElem? (i := 175) (by decide +kernel))
theorem qf_J0_15 : Cond.fieldLink "java/lang/String" 15 "java/lang/String" "coder" "B" ∈ lw_tbl := sk_tb9 _ (List.mem_of_getElem? (i := 66) (by decide +kernel))
theorem qf_J0_38 : Cond.fieldLink "java/lang/String" 38 "java/lang/String" "COMPACT_STRINGS" "Z" ∈ lw_tbl := sk_tb2 _ (List.mem_of_getElem? (i := 181) (by decide +kernel))
theorem qf_J0_9 : Cond.fieldLink "java/lang/String" 9 "java/lang/String" "value" "[B" ∈ lw_tbl := sk_tb9 _ (List.mem_of_getElem? (i := 65) (by decide +kernel))
theorem qi_J0_coder_7d493 : Cond.instanceMethod ⟨"java/lang/String", "coder", "()B"⟩ ∈ lw_tbl := sk_tb2 _ (List.mem_of_getElem? (i := 178) (by decide +kernel))
theorem qi_J0_indexOf_0f7a4 : Cond.instanceMethod ⟨"java/lang/String", "indexOf", "(I)I"⟩ ∈ lw_tbl := sk_tb2 _ (List.mem_of_getElem? (i := 189) (by decide +kernel))
theorem qi_J0_indexOf_7cf53 : Cond.instanceMethod ⟨"java/lang/String", "indexOf", "(II)I"⟩ ∈ lw_tbl := sk_tb2 _ (List.mem_of_getElem? (i := 193) (by decide +kernel))
theorem qi_J0_isLatin1_aae02 : Cond.instanceMethod ⟨"java/lang/String", "isLatin1", "()Z"⟩ ∈ lw_tbl := sk_tb2 _ (List.mem_of_getElem? (i := 197) (by decide +kernel))
theorem qi_J0_length_8abf5 : Cond.instanceMethod ⟨"java/lang/String", "length", "()I"⟩ ∈ lw_tbl := sk_tb2 _ (List.mem_of_getElem? (i := 174) (by decide +kernel))
theorem qm_J0_335 : Cond.methodLink "java/lang/String" 335 ⟨"java/lang/String", "coder", "()B"⟩ ∈ lw_tbl := sk_tb2 _ (List.mem_of_getElem? (i := 177) (by decide +kernel))
theorem qm_J0_492 : Cond.methodLink "java/lang/String" 492 ⟨"java/lang/String", "isLatin1", "()Z"⟩ ∈ lw_tbl := sk_tb2 _ (List.mem_of_getElem? (i := 196) (by decide +kernel))
theorem qm_J0_505 : Cond.methodLink "java/lang/String" 505 ⟨"java/lang/String", "length", "()I"⟩ ∈ lw_tbl := sk_tb2 _ (List.mem_of_getElem? (i := 200) (by decide +kernel))
theorem qm_J0_633 : Cond.methodLink "java/lang/String" 633 ⟨"java/lang/String", "indexOf", "(II)I"⟩ ∈ lw_tbl := sk_tb2 _ (List.mem_of_getElem? (i := 192) (by decide +kernel))
theorem qm_J0_637 : Cond.methodLink "java/lang/String" 637 ⟨"java/lang/StringLatin1", "indexOf", "([BIII)I"⟩ ∈ lw_tbl := sk_tb2 _ (List.mem_of_getElem? (i := 201) (by decide +kernel))
theorem qm_J1_38 : Cond.methodLink "java/lang/StringLatin1" 38 Lib.Math.min.name ∈ lw_tbl := sk_tb2 _ (List.mem_of_getElem? (i := 210) (by decide +kernel))
theorem qm_J1_88 : Cond.methodLink "java/lang/StringLatin1" 88 ⟨"java/lang/StringLatin1", "canEncode", "(I)Z"⟩ ∈ lw_tbl := sk_tb2 _ (List.mem_of_getElem? (i := 204) (by decide +kernel))
theorem qm_J1_92 : Cond.methodLink "java/lang/StringLatin1" 92 Lib.Math.max.name ∈ lw_tbl := sk_tb2 _ (List.mem_of_getElem? (i := 207) (by decide +kernel))
theorem qm_J1_95 : Cond.methodLink "java/lang/StringLatin1" 95 ⟨"java/lang/StringLatin1", "indexOfChar", "([BIII)I"⟩ ∈ lw_tbl := sk_tb2 _ (List.mem_of_getElem? (i := 213) (by decide +kernel))
theorem qs_J1_canEncode_9a6ad : Cond.static ⟨"java/lang/StringLatin1", "canEncode", "(I)Z"⟩ ∈ lw_tbl := sk_tb2 _ (List.mem_of_getElem? (i := 205) (by decide +kernel))
theorem qs_J1_indexOfChar_4cfef : Cond.static ⟨"java/lang/StringLatin1", "indexOfChar", "([BIII)I"⟩ ∈ lw_tbl := sk_tb2 _ (List.mem_of_getElem? (i := 214) (by decide +kernel))
theorem qs_J1_indexOf_4cfef : Cond.static ⟨"java/lang/StringLatin1", "indexOf", "([BIII)I"⟩ ∈ lw_tbl := sk_tb2 _ (List.mem_of_getElem? (i := 202) (by decide +kernel))
theorem qz_J0 : Cond.initialized "java/lang/String" ∈ lw_tbl := sk_tb1 _ (List.mem_of_getElem? (i := 14) (by decide +kernel))
theorem qz_J1 : Cond.initialized "java/lang/StringLatin1" ∈ lw_tbl := sk_tb1 _ (List.mem_of_getElem? (i := 15) (by decide +kernel))
theorem m_J0_coder_7d493 : sk_mok xJ0_coder_7d493 0 := ⟨qc_J0_coder_7d493, qz_J0, by decide +kernel, by decide +kernel, by decide +kernel, by decide +kernel, by decide⟩
theorem m_J0_indexOf_0f7a4 : sk_mok xJ0_indexOf_0f7a4 1 := ⟨qc_J0_indexOf_0f7a4, qz_J0, by decide +kernel, by decide +kernel, by decide +kernel, by decide +kernel, by decide⟩
theorem m_J0_indexOf_7cf53 : sk_mok xJ0_indexOf_7cf53 2 := ⟨qc_J0_indexOf_7cf53, qz_J0, by decide +kernel, by decide +kernel, by decide +kernel, by decide +kernel, by decide⟩
theorem m_J0_isLatin1_aae02 : sk_mok xJ0_isLatin1_aae02 0 := ⟨qc_J0_isLatin1_aae02, qz_J0, by decide +kernel, by decide +kernel, by decide +kernel, by decide +kernel, by decide⟩
theorem m_J0_length_8abf5 : sk_mok xJ0_length_8abf5 0 := ⟨qc_J0_length_8abf5, qz_J0, by decide +kernel, by decide +kernel, by decide +kernel, by decide +kernel, by decide⟩
theorem m_J1_canEncode_9a6ad : sk_mok xJ1_canEncode_9a6ad 1 := ⟨qc_J1_canEncode_9a6ad, qz_J1, by decide +kernel, by decide +kernel, by decide +kernel, by decide +kernel, by decide⟩
theorem m_J1_indexOfChar_4cfef : sk_mok xJ1_indexOfChar_4cfef 4 := ⟨qc_J1_indexOfChar_4cfef, qz_J1, by decide +kernel, by decide +kernel, by decide +kernel, by decide +kernel, by decide⟩
theorem m_J1_indexOf_4cfef : sk_mok xJ1_indexOf_4cfef 4 := ⟨qc_J1_indexOf_4cfef, qz_J1, by decide +kernel, by decide +kernel, by decide +kernel, by decide +kernel, by decide⟩
theorem dJ0_length_8abf5_0 : decode cJ0_length_8abf5 0 = .ok (.aload_n 0, 1) := by decide +kernel
theorem dJ0_length_8abf5_1 : decode cJ0_length_8abf5 1 = .ok (.getfield 9, 3) := by decide +kernel
theorem dJ0_length_8abf5_4 : decode cJ0_length_8abf5 4 = .ok (.arraylength, 1) := by decide +kernel
theorem dJ0_length_8abf5_5 : decode cJ0_length_8abf5 5 = .ok (.aload_n 0, 1) := by decide +kernel
theorem dJ0_length_8abf5_6 : decode cJ0_length_8abf5 6 = .ok (.invokevirtual 335, 3) := by decide +kernel
theorem dJ0_length_8abf5_9 : decode cJ0_length_8abf5 9 = .ok (.ishr, 1) := by decide +kernel
theorem dJ0_length_8abf5_10 : decode cJ0_length_8abf5 10 = .ok (.ireturn, 1) := by decide +kernel
def kJ0_length_8abf5_0 (g : sk_G) (d ck sk : Nat) (Q : sk_P) : sk_K := o_aload 0 (o_sval (g, d, ck, sk, xJ0_length_8abf5, Q) (o_sbl (g, d, ck, sk, xJ0_length_8abf5, Q) (o_aload 0 (o_invS (g, d, ck, sk, xJ0_length_8abf5, Q) xJ0_coder_7d493 0 (o_ishr (o_iret (g, d, ck, sk, xJ0_length_8abf5, Q)))))))
theorem tJ0_length_8abf5_0 {g : sk_G} {d ck sk : Nat} {Q : sk_P} : sk_S (g, d, ck, sk, xJ0_length_8abf5, Q) 0 (kJ0_length_8abf5_0 g d ck sk Q) := s_aload_n dJ0_length_8abf5_0 rfl (s_sval dJ0_length_8abf5_1 qf_J0_9 (s_sbl dJ0_length_8abf5_4 (s_aload_n dJ0_length_8abf5_5 rfl (s_invS dJ0_length_8abf5_6 m_J0_coder_7d493 rfl qm_J0_335 qi_J0_coder_7d493 qe_J0_coder_7d493 (s_ishr dJ0_length_8abf5_9 (s_iret dJ0_length_8abf5_10 rfl))))))
theorem dJ0_coder_7d493_0 : decode cJ0_coder_7d493 0 = .ok (.getstatic 38, 3) := by decide +kernel
theorem dJ0_coder_7d493_3 : decode cJ0_coder_7d493 3 = .ok (.ifCond .eq 10, 3) := by decide +kernel
theorem dJ0_coder_7d493_6 : decode cJ0_coder_7d493 6 = .ok (.aload_n 0, 1) := by decide +kernel
theorem dJ0_coder_7d493_7 : decode cJ0_coder_7d493 7 = .ok (.getfield 15, 3) := by decide +kernel
theorem dJ0_coder_7d493_10 : decode cJ0_coder_7d493 10 = .ok (.goto 4, 3) := by decide +kernel
theorem dJ0_coder_7d493_13 : decode cJ0_coder_7d493 13 = .ok (.iconst 1, 1) := by decide +kernel
theorem dJ0_coder_7d493_14 : decode cJ0_coder_7d493 14 = .ok (.ireturn, 1) := by decide +kernel
def kJ0_coder_7d493_0 (g : sk_G) (d ck sk : Nat) (Q : sk_P) : sk_K := o_i 1 (o_ifeq (o_i (1) (o_bret (g, d, ck, sk, xJ0_coder_7d493, Q))) (o_aload 0 (o_scod (g, d, ck, sk, xJ0_coder_7d493, Q) (o_bret (g, d, ck, sk, xJ0_coder_7d493, Q)))))
theorem tJ0_coder_7d493_0 {g : sk_G} {d ck sk : Nat} {Q : sk_P} : sk_S (g, d, ck, sk, xJ0_coder_7d493, Q) 0 (kJ0_coder_7d493_0 g d ck sk Q) := s_comp dJ0_coder_7d493_0 qf_J0_38 (s_ifeq (tgt := 13) dJ0_coder_7d493_3 (by decide) (s_iconst dJ0_coder_7d493_13 (s_bret dJ0_coder_7d493_14 rfl)) (s_aload_n dJ0_coder_7d493_6 rfl (s_scod dJ0_coder_7d493_7 qf_J0_15 (s_goto (tgt := 14) dJ0_coder_7d493_10 (by decide) (s_bret dJ0_coder_7d493_14 rfl)))))
theorem dJ0_indexOf_0f7a4_0 : decode cJ0_indexOf_0f7a4 0 = .ok (.aload_n 0, 1) := by decide +kernel
theorem dJ0_indexOf_0f7a4_1 : decode cJ0_indexOf_0f7a4 1 = .ok (.iload_n 1, 1) := by decide +kernel
theorem dJ0_indexOf_0f7a4_2 : decode cJ0_indexOf_0f7a4 2 = .ok (.iconst 0, 1) := by decide +kernel
theorem dJ0_indexOf_0f7a4_3 : decode cJ0_indexOf_0f7a4 3 = .ok (.invokevirtual 633, 3) := by decide +kernel
theorem dJ0_indexOf_0f7a4_6 : decode cJ0_indexOf_0f7a4 6 = .ok (.ireturn, 1) := by decide +kernel
def kJ0_indexOf_0f7a4_0 (g : sk_G) (d ck sk : Nat) (Q : sk_P) : sk_K := o_aload 0 (o_iload 1 (o_i (0) (o_invS (g, d, ck, sk, xJ0_indexOf_0f7a4, Q) xJ0_indexOf_7cf53 2 (o_iret (g, d, ck, sk, xJ0_indexOf_0f7a4, Q)))))
theorem tJ0_indexOf_0f7a4_0 {g : sk_G} {d ck sk : Nat} {Q : sk_P} : sk_S (g, d, ck, sk, xJ0_indexOf_0f7a4, Q) 0 (kJ0_indexOf_0f7a4_0 g d ck sk Q) := s_aload_n dJ0_indexOf_0f7a4_0 rfl (s_iload_n dJ0_indexOf_0f7a4_1 rfl (s_iconst dJ0_indexOf_0f7a4_2 (s_invS dJ0_indexOf_0f7a4_3 m_J0_indexOf_7cf53 rfl qm_J0_633 qi_J0_indexOf_7cf53 qe_J0_indexOf_7cf53 (s_iret dJ0_indexOf_0f7a4_6 rfl))))
theorem dJ0_indexOf_7cf53_0 : decode cJ0_indexOf_7cf53 0 = .ok (.aload_n 0, 1) := by decide +kernel
theorem dJ0_indexOf_7cf53_1 : decode cJ0_indexOf_7cf53 1 = .ok (.invokevirtual 492, 3) := by decide +kernel
theorem dJ0_indexOf_7cf53_4 : decode cJ0_indexOf_7cf53 4 = .ok (.ifCond .eq 19, 3) := by decide +kernel
theorem dJ0_indexOf_7cf53_7 : decode cJ0_indexOf_7cf53 7 = .ok (.aload_n 0, 1) := by decide +kernel
theorem dJ0_indexOf_7cf53_8 : decode cJ0_indexOf_7cf53 8 = .ok (.getfield 9, 3) := by decide +kernel
theorem dJ0_indexOf_7cf53_11 : decode cJ0_indexOf_7cf53 11 = .ok (.iload_n 1, 1) := by decide +kernel
theorem dJ0_indexOf_7cf53_12 : decode cJ0_indexOf_7cf53 12 = .ok (.iload_n 2, 1) := by decide +kernel
theorem dJ0_indexOf_7cf53_13 : decode cJ0_indexOf_7cf53 13 = .ok (.aload_n 0, 1) := by decide +kernel
theorem dJ0_indexOf_7cf53_14 : decode cJ0_indexOf_7cf53 14 = .ok (.invokevirtual 505, 3) := by decide +kernel
theorem dJ0_indexOf_7cf53_17 : decode cJ0_indexOf_7cf53 17 = .ok (.invokestatic 637, 3) := by decide +kernel
theorem dJ0_indexOf_7cf53_20 : decode cJ0_indexOf_7cf53 20 = .ok (.goto 16, 3) := by decide +kernel
theorem dJ0_indexOf_7cf53_23 : decode cJ0_indexOf_7cf53 23 = .ok (.aload_n 0, 1) := by decide +kernel
theorem dJ0_indexOf_7cf53_24 : decode cJ0_indexOf_7cf53 24 = .ok (.getfield 9, 3) := by decide +kernel
theorem dJ0_indexOf_7cf53_27 : decode cJ0_indexOf_7cf53 27 = .ok (.iload_n 1, 1) := by decide +kernel
theorem dJ0_indexOf_7cf53_28 : decode cJ0_indexOf_7cf53 28 = .ok (.iload_n 2, 1) := by decide +kernel
theorem dJ0_indexOf_7cf53_29 : decode cJ0_indexOf_7cf53 29 = .ok (.aload_n 0, 1) := by decide +kernel
theorem dJ0_indexOf_7cf53_30 : decode cJ0_indexOf_7cf53 30 = .ok (.invokevirtual 505, 3) := by decide +kernel
theorem dJ0_indexOf_7cf53_33 : decode cJ0_indexOf_7cf53 33 = .ok (.invokestatic 640, 3) := by decide +kernel
theorem dJ0_indexOf_7cf53_36 : decode cJ0_indexOf_7cf53 36 = .ok (.ireturn, 1) := by decide +kernel
def kJ0_indexOf_7cf53_0 (g : sk_G) (d ck sk : Nat) (Q : sk_P) : sk_K := o_aload 0 (o_invS (g, d, ck, sk, xJ0_indexOf_7cf53, Q) xJ0_isLatin1_aae02 0 (o_ifeq (o_aload 0 (o_sval (g, d, ck, sk, xJ0_indexOf_7cf53, Q) (o_iload 1 (o_iload 2 (o_aload 0 (o_invS (g, d, ck, sk, xJ0_indexOf_7cf53, Q) xJ0_length_8abf5 0 ((fun _ _ _ => False)))))))) (o_aload 0 (o_sval (g, d, ck, sk, xJ0_indexOf_7cf53, Q) (o_iload 1 (o_iload 2 (o_aload 0 (o_invS (g, d, ck, sk, xJ0_indexOf_7cf53, Q) xJ0_length_8abf5 0 (o_stcB (g, d, ck, sk, xJ0_indexOf_7cf53, Q) xJ1_indexOf_4cfef 4 0 0 (o_iret (g, d, ck, sk, xJ0_indexOf_7cf53, Q)))))))))))
theorem tJ0_indexOf_7cf53_0 {g : sk_G} {d ck sk : Nat} {Q : sk_P} : sk_S (g, d, ck, sk, xJ0_indexOf_7cf53, Q) 0 (kJ0_indexOf_7cf53_0 g d ck sk Q) := s_aload_n dJ0_indexOf_7cf53_0 rfl (s_invS dJ0_indexOf_7cf53_1 m_J0_isLatin1_aae02 rfl qm_J0_492 qi_J0_isLatin1_aae02 qe_J0_isLatin1_aae02 (s_ifeq (tgt := 23) dJ0_indexOf_7cf53_4 (by decide) (s_aload_n dJ0_indexOf_7cf53_23 rfl (s_sval dJ0_indexOf_7cf53_24 qf_J0_9 (s_iload_n dJ0_indexOf_7cf53_27 rfl (s_iload_n dJ0_indexOf_7cf53_28 rfl (s_aload_n dJ0_indexOf_7cf53_29 rfl (s_invS dJ0_indexOf_7cf53_30 m_J0_length_8abf5 rfl qm_J0_505 qi_J0_length_8abf5 qe_J0_length_8abf5 ((fun _ _ _ h => h.elim)))))))) (s_aload_n dJ0_indexOf_7cf53_7 rfl (s_sval dJ0_indexOf_7cf53_8 qf_J0_9 (s_iload_n dJ0_indexOf_7cf53_11 rfl (s_iload_n dJ0_indexOf_7cf53_12 rfl (s_aload_n dJ0_indexOf_7cf53_13 rfl (s_invS dJ0_indexOf_7cf53_14 m_J0_length_8abf5 rfl qm_J0_505 qi_J0_length_8abf5 qe_J0_length_8abf5 (s_stcB (w' := (g, d, ck, sk, xJ0_indexOf_7cf53, Q)) (ck := 0) (sk := 0) dJ0_indexOf_7cf53_17 m_J1_indexOf_4cfef qm_J0_637 qs_J1_indexOf_4cfef rfl (s_goto (tgt := 36) dJ0_indexOf_7cf53_20 (by decide) (s_iret dJ0_indexOf_7cf53_36 rfl)))))))))))
theorem dJ0_isLatin1_aae02_0 : decode cJ0_isLatin1_aae02 0 = .ok (.getstatic 38, 3) := by decide +kernel
theorem dJ0_isLatin1_aae02_3 : decode cJ0_isLatin1_aae02 3 = .ok (.ifCond .eq 14, 3) := by decide +kernel
theorem dJ0_isLatin1_aae02_6 : decode cJ0_isLatin1_aae02 6 = .ok (.aload_n 0, 1) := by decide +kernel
theorem dJ0_isLatin1_aae02_7 : decode cJ0_isLatin1_aae02 7 = .ok (.getfield 15, 3) := by decide +kernel
theorem dJ0_isLatin1_aae02_10 : decode cJ0_isLatin1_aae02 10 = .ok (.ifCond .ne 7, 3) := by decide +kernel
theorem dJ0_isLatin1_aae02_13 : decode cJ0_isLatin1_aae02 13 = .ok (.iconst 1, 1) := by decide +kernel
theorem dJ0_isLatin1_aae02_14 : decode cJ0_isLatin1_aae02 14 = .ok (.goto 4, 3) := by decide +kernel
theorem dJ0_isLatin1_aae02_17 : decode cJ0_isLatin1_aae02 17 = .ok (.iconst 0, 1) := by decide +kernel
theorem dJ0_isLatin1_aae02_18 : decode cJ0_isLatin1_aae02 18 = .ok (.ireturn, 1) := by decide +kernel
def kJ0_isLatin1_aae02_0 (g : sk_G) (d ck sk : Nat) (Q : sk_P) : sk_K := o_i 1 (o_ifeq (o_i (0) (o_zret (g, d, ck, sk, xJ0_isLatin1_aae02, Q))) (o_aload 0 (o_scod (g, d, ck, sk, xJ0_isLatin1_aae02, Q) (o_ifne (o_i (0) (o_zret (g, d, ck, sk, xJ0_isLatin1_aae02, Q))) (o_i (1) (o_zret (g, d, ck, sk, xJ0_isLatin1_aae02, Q)))))))
theorem tJ0_isLatin1_aae02_0 {g : sk_G} {d ck sk : Nat} {Q : sk_P} : sk_S (g, d, ck, sk, xJ0_isLatin1_aae02, Q) 0 (kJ0_isLatin1_aae02_0 g d ck sk Q) := s_comp dJ0_isLatin1_aae02_0 qf_J0_38 (s_ifeq (tgt := 17) dJ0_isLatin1_aae02_3 (by decide) (s_iconst dJ0_isLatin1_aae02_17 (s_zret dJ0_isLatin1_aae02_18 rfl)) (s_aload_n dJ0_isLatin1_aae02_6 rfl (s_scod dJ0_isLatin1_aae02_7 qf_J0_15 (s_ifne (tgt := 17) dJ0_isLatin1_aae02_10 (by decide) (s_iconst dJ0_isLatin1_aae02_17 (s_zret dJ0_isLatin1_aae02_18 rfl)) (s_iconst dJ0_isLatin1_aae02_13 (s_goto (tgt := 18) dJ0_isLatin1_aae02_14 (by decide) (s_zret dJ0_isLatin1_aae02_18 rfl)))))))
theorem dJ1_indexOf_4cfef_0 : decode cJ1_indexOf_4cfef 0 = .ok (.iload_n 1, 1) := by decide +kernel
theorem dJ1_indexOf_4cfef_1 : decode cJ1_indexOf_4cfef 1 = .ok (.invokestatic 88, 3) := by decide +kernel
theorem dJ1_indexOf_4cfef_4 : decode cJ1_indexOf_4cfef 4 = .ok (.ifCond .ne 5, 3) := by decide +kernel
theorem dJ1_indexOf_4cfef_7 : decode cJ1_indexOf_4cfef 7 = .ok (.iconst (-1), 1) := by decide +kernel
theorem dJ1_indexOf_4cfef_8 : decode cJ1_indexOf_4cfef 8 = .ok (.ireturn, 1) := by decide +kernel
theorem dJ1_indexOf_4cfef_9 : decode cJ1_indexOf_4cfef 9 = .ok (.iload_n 2, 1) := by decide +kernel
theorem dJ1_indexOf_4cfef_10 : decode cJ1_indexOf_4cfef 10 = .ok (.iconst 0, 1) := by decide +kernel
theorem dJ1_indexOf_4cfef_11 : decode cJ1_indexOf_4cfef 11 = .ok (.invokestatic 92, 3) := by decide +kernel
theorem dJ1_indexOf_4cfef_14 : decode cJ1_indexOf_4cfef 14 = .ok (.istore_n 2, 1) := by decide +kernel
theorem dJ1_indexOf_4cfef_15 : decode cJ1_indexOf_4cfef 15 = .ok (.iload_n 3, 1) := by decide +kernel
theorem dJ1_indexOf_4cfef_16 : decode cJ1_indexOf_4cfef 16 = .ok (.aload_n 0, 1) := by decide +kernel
theorem dJ1_indexOf_4cfef_17 : decode cJ1_indexOf_4cfef 17 = .ok (.arraylength, 1) := by decide +kernel
theorem dJ1_indexOf_4cfef_18 : decode cJ1_indexOf_4cfef 18 = .ok (.invokestatic 38, 3) := by decide +kernel
theorem dJ1_indexOf_4cfef_21 : decode cJ1_indexOf_4cfef 21 = .ok (.istore_n 3, 1) := by decide +kernel
theorem dJ1_indexOf_4cfef_22 : decode cJ1_indexOf_4cfef 22 = .ok (.iload_n 2, 1) := by decide +kernel
theorem dJ1_indexOf_4cfef_23 : decode cJ1_indexOf_4cfef 23 = .ok (.iload_n 3, 1) := by decide +kernel
theorem dJ1_indexOf_4cfef_24 : decode cJ1_indexOf_4cfef 24 = .ok (.if_icmp .lt 5, 3) := by decide +kernel
theorem dJ1_indexOf_4cfef_27 : decode cJ1_indexOf_4cfef 27 = .ok (.iconst (-1), 1) := by decide +kernel
theorem dJ1_indexOf_4cfef_28 : decode cJ1_indexOf_4cfef 28 = .ok (.ireturn, 1) := by decide +kernel
theorem dJ1_indexOf_4cfef_29 : decode cJ1_indexOf_4cfef 29 = .ok (.aload_n 0, 1) := by decide +kernel
theorem dJ1_indexOf_4cfef_30 : decode cJ1_indexOf_4cfef 30 = .ok (.iload_n 1, 1) := by decide +kernel
theorem dJ1_indexOf_4cfef_31 : decode cJ1_indexOf_4cfef 31 = .ok (.iload_n 2, 1) := by decide +kernel
theorem dJ1_indexOf_4cfef_32 : decode cJ1_indexOf_4cfef 32 = .ok (.iload_n 3, 1) := by decide +kernel
theorem dJ1_indexOf_4cfef_33 : decode cJ1_indexOf_4cfef 33 = .ok (.invokestatic 95, 3) := by decide +kernel
theorem dJ1_indexOf_4cfef_36 : decode cJ1_indexOf_4cfef 36 = .ok (.ireturn, 1) := by decide +kernel
def kJ1_indexOf_4cfef_0 (g : sk_G) (d ck sk : Nat) (Q : sk_P) : sk_K := o_iload 1 (o_stcB (g, d, ck, sk, xJ1_indexOf_4cfef, Q) xJ1_canEncode_9a6ad 1 0 0 (o_ifne (o_iload 2 (o_i (0) (o_max (g, d, ck, sk, xJ1_indexOf_4cfef, Q) (o_istore 2 (o_iload 3 (o_aload 0 (o_sbl (g, d, ck, sk, xJ1_indexOf_4cfef, Q) (o_min (g, d, ck, sk, xJ1_indexOf_4cfef, Q) (o_istore 3 (o_iload 2 (o_iload 3 (o_iclt (o_aload 0 (o_iload 1 (o_iload 2 (o_iload 3 (o_stcB (g, d, ck, sk, xJ1_indexOf_4cfef, Q) xJ1_indexOfChar_4cfef 4 0 0 (o_iret (g, d, ck, sk, xJ1_indexOf_4cfef, Q))))))) (o_i (-1) (o_iret (g, d, ck, sk, xJ1_indexOf_4cfef, Q))))))))))))))) (o_i (-1) (o_iret (g, d, ck, sk, xJ1_indexOf_4cfef, Q)))))
theorem tJ1_indexOf_4cfef_0 {g : sk_G} {d ck sk : Nat} {Q : sk_P} : sk_S (g, d, ck, sk, xJ1_indexOf_4cfef, Q) 0 (kJ1_indexOf_4cfef_0 g d ck sk Q) := s_iload_n dJ1_indexOf_4cfef_0 rfl (s_stcB (w' := (g, d, ck, sk, xJ1_indexOf_4cfef, Q)) (ck := 0) (sk := 0) dJ1_indexOf_4cfef_1 m_J1_canEncode_9a6ad qm_J1_88 qs_J1_canEncode_9a6ad rfl (s_ifne (tgt := 9) dJ1_indexOf_4cfef_4 (by decide) (s_iload_n dJ1_indexOf_4cfef_9 rfl (s_iconst dJ1_indexOf_4cfef_10 (s_max dJ1_indexOf_4cfef_11 qm_J1_92 qs_Mmax qz_J9 qc_Mmax (s_istore_n dJ1_indexOf_4cfef_14 rfl (by decide : 2 < 4) (s_iload_n dJ1_indexOf_4cfef_15 rfl (s_aload_n dJ1_indexOf_4cfef_16 rfl (s_sbl dJ1_indexOf_4cfef_17 (s_min dJ1_indexOf_4cfef_18 qm_J1_38 qs_Mmin qz_J9 qc_Mmin (s_istore_n dJ1_indexOf_4cfef_21 rfl (by decide : 3 < 4) (s_iload_n dJ1_indexOf_4cfef_22 rfl (s_iload_n dJ1_indexOf_4cfef_23 rfl (s_iclt (tgt := 29) dJ1_indexOf_4cfef_24 (by decide) (s_aload_n dJ1_indexOf_4cfef_29 rfl (s_iload_n dJ1_indexOf_4cfef_30 rfl (s_iload_n dJ1_indexOf_4cfef_31 rfl (s_iload_n dJ1_indexOf_4cfef_32 rfl (s_stcB (w' := (g, d, ck, sk, xJ1_indexOf_4cfef, Q)) (ck := 0) (sk := 0) dJ1_indexOf_4cfef_33 m_J1_indexOfChar_4cfef qm_J1_95 qs_J1_indexOfChar_4cfef rfl (s_iret dJ1_indexOf_4cfef_36 rfl)))))) (s_iconst dJ1_indexOf_4cfef_27 (s_iret dJ1_indexOf_4cfef_28 rfl)))))))))))))) (s_iconst dJ1_indexOf_4cfef_7 (s_iret dJ1_indexOf_4cfef_8 rfl))))
theorem dJ1_canEncode_9a6ad_0 : decode cJ1_canEncode_9a6ad 0 = .ok (.iload_n 0, 1) := by decide +kernel
theorem dJ1_canEncode_9a6ad_1 : decode cJ1_canEncode_9a6ad 1 = .ok (.ifCond .lt 14, 3) := by decide +kernel
theorem dJ1_canEncode_9a6ad_4 : decode cJ1_canEncode_9a6ad 4 = .ok (.iload_n 0, 1) := by decide +kernel
theorem dJ1_canEncode_9a6ad_5 : decode cJ1_canEncode_9a6ad 5 = .ok (.sipush 255, 3) := by decide +kernel
theorem dJ1_canEncode_9a6ad_8 : decode cJ1_canEncode_9a6ad 8 = .ok (.if_icmp .gt 7, 3) := by decide +kernel
theorem dJ1_canEncode_9a6ad_11 : decode cJ1_canEncode_9a6ad 11 = .ok (.iconst 1, 1) := by decide +kernel
theorem dJ1_canEncode_9a6ad_12 : decode cJ1_canEncode_9a6ad 12 = .ok (.goto 4, 3) := by decide +kernel
theorem dJ1_canEncode_9a6ad_15 : decode cJ1_canEncode_9a6ad 15 = .ok (.iconst 0, 1) := by decide +kernel
theorem dJ1_canEncode_9a6ad_16 : decode cJ1_canEncode_9a6ad 16 = .ok (.ireturn, 1) := by decide +kernel
def kJ1_canEncode_9a6ad_0 (g : sk_G) (d ck sk : Nat) (Q : sk_P) : sk_K := o_iload 0 (o_iflt (o_i (0) (o_zret (g, d, ck, sk, xJ1_canEncode_9a6ad, Q))) (o_iload 0 (o_i (255) (o_icgt (o_i (0) (o_zret (g, d, ck, sk, xJ1_canEncode_9a6ad, Q))) (o_i (1) (o_zret (g, d, ck, sk, xJ1_canEncode_9a6ad, Q)))))))
theorem tJ1_canEncode_9a6ad_0 {g : sk_G} {d ck sk : Nat} {Q : sk_P} : sk_S (g, d, ck, sk, xJ1_canEncode_9a6ad, Q) 0 (kJ1_canEncode_9a6ad_0 g d ck sk Q) := s_iload_n dJ1_canEncode_9a6ad_0 rfl (s_iflt (tgt := 15) dJ1_canEncode_9a6ad_1 (by decide) (s_iconst dJ1_canEncode_9a6ad_15 (s_zret dJ1_canEncode_9a6ad_16 rfl)) (s_iload_n dJ1_canEncode_9a6ad_4 rfl (s_sipush dJ1_canEncode_9a6ad_5 rfl (s_icgt (tgt := 15) dJ1_canEncode_9a6ad_8 (by decide) (s_iconst dJ1_canEncode_9a6ad_15 (s_zret dJ1_canEncode_9a6ad_16 rfl)) (s_iconst dJ1_canEncode_9a6ad_11 (s_goto (tgt := 16) dJ1_canEncode_9a6ad_12 (by decide) (s_zret dJ1_canEncode_9a6ad_16 rfl)))))))
theorem dJ1_indexOfChar_4cfef_0 : decode cJ1_indexOfChar_4cfef 0 = .ok (.iload_n 1, 1) := by decide +kernel
theorem dJ1_indexOfChar_4cfef_1 : decode cJ1_indexOfChar_4cfef 1 = .ok (.i2b, 1) := by decide +kernel
theorem dJ1_indexOfChar_4cfef_2 : decode cJ1_indexOfChar_4cfef 2 = .ok (.istore 4, 2) := by decide +kernel
theorem dJ1_indexOfChar_4cfef_4 : decode cJ1_indexOfChar_4cfef 4 = .ok (.iload_n 2, 1) := by decide +kernel
theorem dJ1_indexOfChar_4cfef_5 : decode cJ1_indexOfChar_4cfef 5 = .ok (.istore 5, 2) := by decide +kernel
theorem dJ1_indexOfChar_4cfef_7 : decode cJ1_indexOfChar_4cfef 7 = .ok (.iload 5, 2) := by decide +kernel
theorem dJ1_indexOfChar_4cfef_9 : decode cJ1_indexOfChar_4cfef 9 = .ok (.iload_n 3, 1) := by decide +kernel
theorem dJ1_indexOfChar_4cfef_10 : decode cJ1_indexOfChar_4cfef 10 = .ok (.if_icmp .ge 21, 3) := by decide +kernel
theorem dJ1_indexOfChar_4cfef_13 : decode cJ1_indexOfChar_4cfef 13 = .ok (.aload_n 0, 1) := by decide +kernel
theorem dJ1_indexOfChar_4cfef_14 : decode cJ1_indexOfChar_4cfef 14 = .ok (.iload 5, 2) := by decide +kernel
theorem dJ1_indexOfChar_4cfef_16 : decode cJ1_indexOfChar_4cfef 16 = .ok (.baload, 1) := by decide +kernel
theorem dJ1_indexOfChar_4cfef_17 : decode cJ1_indexOfChar_4cfef 17 = .ok (.iload 4, 2) := by decide +kernel
theorem dJ1_indexOfChar_4cfef_19 : decode cJ1_indexOfChar_4cfef 19 = .ok (.if_icmp .ne 6, 3) := by decide +kernel
theorem dJ1_indexOfChar_4cfef_22 : decode cJ1_indexOfChar_4cfef 22 = .ok (.iload 5, 2) := by decide +kernel
theorem dJ1_indexOfChar_4cfef_24 : decode cJ1_indexOfChar_4cfef 24 = .ok (.ireturn, 1) := by decide +kernel
theorem dJ1_indexOfChar_4cfef_25 : decode cJ1_indexOfChar_4cfef 25 = .ok (.iinc 5 1, 3) := by decide +kernel
theorem dJ1_indexOfChar_4cfef_28 : decode cJ1_indexOfChar_4cfef 28 = .ok (.goto (-21), 3) := by decide +kernel
theorem dJ1_indexOfChar_4cfef_31 : decode cJ1_indexOfChar_4cfef 31 = .ok (.iconst (-1), 1) := by decide +kernel
theorem dJ1_indexOfChar_4cfef_32 : decode cJ1_indexOfChar_4cfef 32 = .ok (.ireturn, 1) := by decide +kernel
def kJ1_indexOfChar_4cfef_0 (g : sk_G) (d ck sk : Nat) (Q : sk_P) : sk_K := o_iload 1 (o_i2b (o_istore 4 (o_iload 2 (o_istore 5 (sk_B (g, d, ck, sk, xJ1_indexOfChar_4cfef, Q) 7)))))
theorem tJ1_indexOfChar_4cfef_0 {g : sk_G} {d ck sk : Nat} {Q : sk_P} : sk_S (g, d, ck, sk, xJ1_indexOfChar_4cfef, Q) 0 (kJ1_indexOfChar_4cfef_0 g d ck sk Q) := s_iload_n dJ1_indexOfChar_4cfef_0 rfl (s_i2b dJ1_indexOfChar_4cfef_1 (s_istore dJ1_indexOfChar_4cfef_2 (by decide : 4 < 6) (s_iload_n dJ1_indexOfChar_4cfef_4 rfl (s_istore dJ1_indexOfChar_4cfef_5 (by decide : 5 < 6) (sk_id)))))
def kJ1_indexOfChar_4cfef_7 (g : sk_G) (d ck sk : Nat) (Q : sk_P) : sk_K := o_iload 5 (o_iload 3 (o_icge (o_i (-1) (o_iret (g, d, ck, sk, xJ1_indexOfChar_4cfef, Q))) (o_aload 0 (o_iload 5 (o_sbd (g, d, ck, sk, xJ1_indexOfChar_4cfef, Q) (o_iload 4 (o_icne (o_iinc 5 (1) (sk_B (g, d, ck, sk, xJ1_indexOfChar_4cfef, Q) 7)) (o_iload 5 (o_iret (g, d, ck, sk, xJ1_indexOfChar_4cfef, Q))))))))))
theorem tJ1_indexOfChar_4cfef_7 {g : sk_G} {d ck sk : Nat} {Q : sk_P} : sk_S (g, d, ck, sk, xJ1_indexOfChar_4cfef, Q) 7 (kJ1_indexOfChar_4cfef_7 g d ck sk Q) := s_iload dJ1_indexOfChar_4cfef_7 (s_iload_n dJ1_indexOfChar_4cfef_9 rfl (s_icge (tgt := 31) dJ1_indexOfChar_4cfef_10 (by decide) (s_iconst dJ1_indexOfChar_4cfef_31 (s_iret dJ1_indexOfChar_4cfef_32 rfl)) (s_aload_n dJ1_indexOfChar_4cfef_13 rfl (s_iload dJ1_indexOfChar_4cfef_14 (s_sbd dJ1_indexOfChar_4cfef_16 (s_iload dJ1_indexOfChar_4cfef_17 (s_icne (tgt := 25) dJ1_indexOfChar_4cfef_19 (by decide) (s_iinc dJ1_indexOfChar_4cfef_25 (by decide : 5 < 6) (s_goto (tgt := 7) dJ1_indexOfChar_4cfef_28 (by decide) (sk_id))) (s_iload dJ1_indexOfChar_4cfef_22 (s_iret dJ1_indexOfChar_4cfef_24 rfl)))))))))
