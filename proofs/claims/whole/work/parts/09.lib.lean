/-! ===== members of Math and System ===== -/
section LIB
variable {w : sk_W} {pc : Nat} {k : sk_K} {index : Nat}
def sk_max (x y : Int) : Int := if x < y then y else x
def sk_min (x y : Int) : Int := if y < x then y else x
def o_max (w : sk_W) (k : sk_K) : sk_K := fun L st M => match st with
  | .inl y :: .inl x :: r => 1 ≤ w.2.1 ∧ sk_wt r ≤ 8 ∧ k L (.inl (sk_max (sk_w x) (sk_w y)) :: r) M
  | _ => False
def o_min (w : sk_W) (k : sk_K) : sk_K := fun L st M => match st with
  | .inl y :: .inl x :: r => 1 ≤ w.2.1 ∧ sk_wt r ≤ 8 ∧ k L (.inl (sk_min (sk_w x) (sk_w y)) :: r) M
  | _ => False
def o_maxl (w : sk_W) (k : sk_K) : sk_K := fun L st M => match st with
  | .inr (.inl y) :: .inr (.inl x) :: r => 1 ≤ w.2.1 ∧ sk_wt r ≤ 8 ∧ k L (.inr (.inl (sk_max (sk_wl x) (sk_wl y))) :: r) M
  | _ => False
def o_minl (w : sk_W) (k : sk_K) : sk_K := fun L st M => match st with
  | .inr (.inl y) :: .inr (.inl x) :: r => 1 ≤ w.2.1 ∧ sk_wt r ≤ 8 ∧ k L (.inr (.inl (sk_min (sk_wl x) (sk_wl y))) :: r) M
  | _ => False
theorem s_max (hd : decode (sk_bc w) pc = .ok (.invokestatic index, 3)) (hl : Cond.methodLink w.2.2.2.2.1.1.cls index Lib.Math.max.name ∈ lw_tbl) (hst : Cond.static Lib.Math.max.name ∈ lw_tbl) (hin : Cond.initialized "java/lang/Math" ∈ lw_tbl) (hco : Cond.code Lib.Math.max.name Lib.Math.max.code 2 (some .int) ∈ lw_tbl) (hk : sk_S w (pc + 3) k) : sk_S w pc (o_max w k) := by
  intro L st M h
  unfold o_max at h
  split at h
  next y x r =>
    obtain ⟨hdd, hwt, h⟩ := h
    intro p e s m args below meth c H locs cells slots mc ms ls hC h1 h2 hH hLo hl'
    have hkk := hk _ _ _ h p e s m args below meth c H locs cells slots mc ms ls hC h1 h2 hH hLo hl'
    obtain ⟨hx, hb, -, hml, -, hown, -, hW, hg⟩ := hC
    refine va_mmax hx hb (hml.trans hl'.1.symm) hown (sk_use hl rfl hg hW args) (sk_use hst rfl hg hW args) (sk_use hin rfl hg hW args) (sk_use hco rfl hg hW args) (by show 1 ≤ w.2.1; exact hdd) (by rw [sk_wt_eq]; show _ ≤ 80 * w.2.1; omega) (by show cells ≤ mc; omega) (by show slots ≤ ms; omega) hd ?_
    have e0 : (if Int32.ofInt x < Int32.ofInt y then Int32.ofInt y else Int32.ofInt x) = Int32.ofInt (sk_max (sk_w x) (sk_w y)) := by
      simp only [sk_ltI, sk_max]
      split <;> rw [sk_of_w]
    rw [e0]
    exact hkk
  next => exact h.elim
theorem s_min (hd : decode (sk_bc w) pc = .ok (.invokestatic index, 3)) (hl : Cond.methodLink w.2.2.2.2.1.1.cls index Lib.Math.min.name ∈ lw_tbl) (hst : Cond.static Lib.Math.min.name ∈ lw_tbl) (hin : Cond.initialized "java/lang/Math" ∈ lw_tbl) (hco : Cond.code Lib.Math.min.name Lib.Math.min.code 2 (some .int) ∈ lw_tbl) (hk : sk_S w (pc + 3) k) : sk_S w pc (o_min w k) := by
  intro L st M h
  unfold o_min at h
  split at h
  next y x r =>
    obtain ⟨hdd, hwt, h⟩ := h
    intro p e s m args below meth c H locs cells slots mc ms ls hC h1 h2 hH hLo hl'
    have hkk := hk _ _ _ h p e s m args below meth c H locs cells slots mc ms ls hC h1 h2 hH hLo hl'
    obtain ⟨hx, hb, -, hml, -, hown, -, hW, hg⟩ := hC
    refine va_mmin hx hb (hml.trans hl'.1.symm) hown (sk_use hl rfl hg hW args) (sk_use hst rfl hg hW args) (sk_use hin rfl hg hW args) (sk_use hco rfl hg hW args) (by show 1 ≤ w.2.1; exact hdd) (by rw [sk_wt_eq]; show _ ≤ 80 * w.2.1; omega) (by show cells ≤ mc; omega) (by show slots ≤ ms; omega) hd ?_
    first
      | (have e0 : (if Int32.ofInt y < Int32.ofInt x then Int32.ofInt y else Int32.ofInt x) = Int32.ofInt (sk_min (sk_w x) (sk_w y)) := by
          simp only [sk_ltI, sk_min]
          split <;> rw [sk_of_w]
         rw [e0]
         exact hkk)
      | (have e0 : (if Int32.ofInt x < Int32.ofInt y then Int32.ofInt x else Int32.ofInt y) = Int32.ofInt (sk_min (sk_w x) (sk_w y)) := by
          simp only [sk_ltI, sk_min]
          split <;> split <;> rw [sk_of_w] <;> first | rfl | (rw [sk_eqI]; omega)
         rw [e0]
         exact hkk)
  next => exact h.elim
theorem sk_ltL (x y : Int) : Int64.ofInt x < Int64.ofInt y ↔ sk_wl x < sk_wl y := Int64.lt_iff_toInt_lt
theorem sk_eqL (x y : Int) : Int64.ofInt x = Int64.ofInt y ↔ sk_wl x = sk_wl y := Int64.toInt_inj.symm
theorem s_maxl (hd : decode (sk_bc w) pc = .ok (.invokestatic index, 3)) (hl : Cond.methodLink w.2.2.2.2.1.1.cls index Lib.MathLoose.max_long.x ∈ lw_tbl) (hst : Cond.static Lib.MathLoose.max_long.x ∈ lw_tbl) (hin : Cond.initialized "java/lang/Math" ∈ lw_tbl) (hco : Cond.code Lib.MathLoose.max_long.x Lib.MathLoose.max_long.code 4 (some .long) ∈ lw_tbl) (hk : sk_S w (pc + 3) k) : sk_S w pc (o_maxl w k) := by
  intro L st M h
  unfold o_maxl at h
  split at h
  next y x r =>
    obtain ⟨hdd, hwt, h⟩ := h
    intro p e s m args below meth c H locs cells slots mc ms ls hC h1 h2 hH hLo hl'
    have hkk := hk _ _ _ h p e s m args below meth c H locs cells slots mc ms ls hC h1 h2 hH hLo hl'
    obtain ⟨hx, hb, -, hml, -, hown, -, hW, hg⟩ := hC
    refine va_mmax_long hx hb (hml.trans hl'.1.symm) hown (sk_use hl rfl hg hW args) (sk_use hst rfl hg hW args) (sk_use hin rfl hg hW args) (sk_use hco rfl hg hW args) (by show 1 ≤ w.2.1; exact hdd) (by rw [sk_wt_eq]; show _ ≤ 80 * w.2.1; omega) (by show cells ≤ mc; omega) (by show slots ≤ ms; omega) hd ?_
    have e0 : (if Int64.ofInt y < Int64.ofInt x then Int64.ofInt x else Int64.ofInt y) = Int64.ofInt (sk_max (sk_wl x) (sk_wl y)) := by
      simp only [sk_ltL, sk_max]
      split <;> split <;> rw [sk_ofl] <;> first | rfl | (rw [sk_eqL]; omega) | (exfalso; omega)
    rw [e0]
    exact hkk
  next => exact h.elim
theorem s_minl (hd : decode (sk_bc w) pc = .ok (.invokestatic index, 3)) (hl : Cond.methodLink w.2.2.2.2.1.1.cls index Lib.MathLoose.min_long.x ∈ lw_tbl) (hst : Cond.static Lib.MathLoose.min_long.x ∈ lw_tbl) (hin : Cond.initialized "java/lang/Math" ∈ lw_tbl) (hco : Cond.code Lib.MathLoose.min_long.x Lib.MathLoose.min_long.code 4 (some .long) ∈ lw_tbl) (hk : sk_S w (pc + 3) k) : sk_S w pc (o_minl w k) := by
  intro L st M h
  unfold o_minl at h
  split at h
  next y x r =>
    obtain ⟨hdd, hwt, h⟩ := h
    intro p e s m args below meth c H locs cells slots mc ms ls hC h1 h2 hH hLo hl'
    have hkk := hk _ _ _ h p e s m args below meth c H locs cells slots mc ms ls hC h1 h2 hH hLo hl'
    obtain ⟨hx, hb, -, hml, -, hown, -, hW, hg⟩ := hC
    refine va_mmin_long hx hb (hml.trans hl'.1.symm) hown (sk_use hl rfl hg hW args) (sk_use hst rfl hg hW args) (sk_use hin rfl hg hW args) (sk_use hco rfl hg hW args) (by show 1 ≤ w.2.1; exact hdd) (by rw [sk_wt_eq]; show _ ≤ 80 * w.2.1; omega) (by show cells ≤ mc; omega) (by show slots ≤ ms; omega) hd ?_
    have e0 : (if Int64.ofInt y < Int64.ofInt x then Int64.ofInt y else Int64.ofInt x) = Int64.ofInt (sk_min (sk_wl x) (sk_wl y)) := by
      simp only [sk_ltL, sk_min]
      split <;> rw [sk_ofl]
    rw [e0]
    exact hkk
  next => exact h.elim
/-- System.arraycopy between two int arrays -/
def o_acopy (w : sk_W) (k : sk_K) : sk_K := fun L st M => match st with
  | .inl n :: .inl dp :: .inr (.inr (some a)) :: .inl sp :: .inr (.inr (some b)) :: r => 1 ≤ w.2.1 ∧ sk_wt r ≤ 8 ∧ (M.2 b).1 = 20 ∧ (M.2 a).1 = 20 ∧ (∀ j, ∃ x : Int, (M.2 b).2.2 j = .inl x) ∧ 0 ≤ sk_w sp ∧ 0 ≤ sk_w dp ∧ 0 ≤ sk_w n ∧ sk_w sp + sk_w n ≤ (M.2 b).2.1 ∧ sk_w dp + sk_w n ≤ (M.2 a).2.1 ∧
      k L r (M.1, va_up M.2 a (20, (M.2 a).2.1, va_cpy (M.2 b).2.2 (M.2 a).2.2 (sk_w sp).toNat (sk_w dp).toNat (sk_w n).toNat))
  | _ => False
theorem s_acopy (hd : decode (sk_bc w) pc = .ok (.invokestatic index, 3)) (hl : Cond.methodLink w.2.2.2.2.1.1.cls index arraycopyName ∈ lw_tbl) (hna : Cond.native arraycopyName ∈ lw_tbl) (hst : Cond.static arraycopyName ∈ lw_tbl) (hin : Cond.initialized "java/lang/System" ∈ lw_tbl) (hk : sk_S w (pc + 3) k) : sk_S w pc (o_acopy w k) := by
  intro L st M h
  unfold o_acopy at h
  split at h
  next n dp a sp b r =>
    obtain ⟨hdd, hwt, hkb, hka, hint, g1, g2, g3, g4, g5, h⟩ := h
    intro p e s m args below meth c H locs cells slots mc ms ls hC h1 h2 hH hLo hl'
    have hC0 := hC
    obtain ⟨hx, hb, -, hml, -, hown, -, hW, hg⟩ := hC
    obtain ⟨hcb, -⟩ := sk_arr hH (a := b) (by omega) (by omega)
    obtain ⟨hca, hba⟩ := sk_arr hH (a := a) (by omega) (by omega)
    have ht := (sk_arrT hg hW (q := 20) (by omega) (by omega)).1
    rw [hkb] at hcb
    rw [hka] at hca
    obtain ⟨-, k0, hk0, cm0, hkk0⟩ := ht (M.2 b).2.1 (fun j => sk_val ((M.2 b).2.2 j))
    obtain ⟨-, k1, hk1, cm1, hkk1⟩ := ht (M.2 a).2.1 (fun j => sk_val ((M.2 a).2.2 j))
    have esp : (Int32.ofInt sp).toNatClampNeg = (sk_w sp).toNat := sk_ix sp
    have edp : (Int32.ofInt dp).toNatClampNeg = (sk_w dp).toNat := sk_ix dp
    have en : (Int32.ofInt n).toNatClampNeg = (sk_w n).toNat := sk_ix n
    have hnw : nativeFrameWords "java/lang/System" "arraycopy" 5 ≤ 60 := by decide +kernel
    intro T hT X
    obtain ⟨vm', X', step⟩ := X.arraycopy hx hown (sk_use hl rfl hg hW args) (sk_use hna rfl hg hW args) (sk_use hst rfl hg hW args) (sk_use hin rfl hg hW args) (src := b) (dst := a) (srcPos := Int32.ofInt sp) (destPos := Int32.ofInt dp) (n := Int32.ofInt n) (by rw [hT]; exact hcb) (by rw [hT]; exact hca)
      (fun _ h => by cases h) (fun _ h => by cases h) (fun h => by cases h) (fun h => by cases h) hk0 hk1 hkk0 hkk1 (by rfl) (by rw [sk_lt0]; omega) (by rw [sk_lt0]; omega) (by rw [sk_lt0]; omega)
      (by show ¬ sk_w sp + sk_w n > ((arrV _ _ _).slots.size : Int); rw [arrV_size]; omega)
      (by show ¬ sk_w dp + sk_w n > ((arrV _ _ _).slots.size : Int); rw [arrV_size]; omega)
      (fun vm₁ _ i hi => by
        have e : (arrV (w.1.2.2.2.1 20) (M.2 b).2.1 (fun j => sk_val ((M.2 b).2.2 j))).slots.getD ((Int32.ofInt sp).toNatClampNeg + i) .null = sk_val ((M.2 b).2.2 ((Int32.ofInt sp).toNatClampNeg + i)) := by
          rw [Array.getD_eq_getD_getElem?, arrV_read _ _ (by rw [esp]; rw [en] at hi; omega)]
          rfl
        obtain ⟨x, hx'⟩ := hint ((Int32.ofInt sp).toNatClampNeg + i)
        rw [e, hx']
        exact ⟨rfl, trivial⟩)
      (g := F0 m pc ls (((.inl n :: .inl dp :: .inr (.inr (some a)) :: .inl sp :: .inr (.inr (some b)) :: r : List sk_V)).map sk_val)) rfl (by rw [hml]; exact hl'.1) (rest := r.map sk_val) rfl (by rw [hb]; exact hd) (by show 1 ≤ w.2.1; exact hdd) (by rw [sk_wt_eq]; show 2 * 0 + _ + _ ≤ 80 * w.2.1; omega)
    have e1 : copied (arrV (w.1.2.2.2.1 20) (M.2 b).2.1 (fun j => sk_val ((M.2 b).2.2 j))) (arrV (w.1.2.2.2.1 20) (M.2 a).2.1 (fun j => sk_val ((M.2 a).2.2 j))) (Int32.ofInt sp) (Int32.ofInt dp) (Int32.ofInt n) = arrV (w.1.2.2.2.1 20) (M.2 a).2.1 (fun j => sk_val (va_cpy (M.2 b).2.2 (M.2 a).2.2 (sk_w sp).toNat (sk_w dp).toNat (sk_w n).toNat j)) := by
      rw [← esp, ← edp, ← en]
      exact va_copied sk_val _ _ _ _ (by rw [esp, en]; omega)
    rw [e1] at X' step
    have hla : a < H.size := (Array.getElem?_eq_some_iff.mp hca).1
    have hheap : ((T.setVm vm').setCell a (arrV (w.1.2.2.2.1 20) (M.2 a).2.1 (fun j => sk_val (va_cpy (M.2 b).2.2 (M.2 a).2.2 (sk_w sp).toNat (sk_w dp).toNat (sk_w n).toNat j)))).heap = H.setIfInBounds a (arrV (w.1.2.2.2.1 20) (M.2 a).2.1 (fun j => sk_val (va_cpy (M.2 b).2.2 (M.2 a).2.2 (sk_w sp).toNat (sk_w dp).toNat (sk_w n).toNat j))) := by rw [← hT]; rfl
    obtain ⟨t, a1, b1⟩ := hk _ _ _ h p e s m args below meth c _ _ cells slots mc ms ls hC0 h1 h2 (sk_H_put hH (by simp) (fun q hq => by simp [Array.getElem?_setIfInBounds, Ne.symm hq]) hba ⟨fun h => by simp at h, fun _ _ => by simp [Array.getElem?_setIfInBounds, hla], fun h => by simp at h⟩) (fun q hq => by
        rcases List.mem_append.mp hq with h | h
        · exact hLo q h
        · obtain ⟨z, -, hz⟩ := List.mem_map.mp h
          rw [← hz]
          exact hba) hl' _ hheap X'
    exact ⟨t, step t a1, b1⟩
  next => exact h.elim
end LIB
