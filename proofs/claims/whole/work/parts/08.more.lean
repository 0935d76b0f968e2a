/-! ===== longs ===== -/
section LONG
variable {w : sk_W} {pc : Nat} {k : sk_K}
def o_ladd (k : sk_K) : sk_K := fun L st M => match st with
  | .inr (.inl y) :: .inr (.inl x) :: r => k L (.inr (.inl (x + y)) :: r) M
  | _ => False
theorem s_ladd (hd : decode (sk_bc w) pc = .ok (.ladd, 1)) (hk : sk_S w (pc + 1) k) : sk_S w pc (o_ladd k) := by
  intro L st M h
  unfold o_ladd at h
  split at h
  next y x r => exact sk_stk (fun _ _ _ _ _ _ _ _ _ _ _ _ _ _ _ hC _ kk => lv_ladd hC.1 hC.2.1 hd (by rw [← Int64.ofInt_add]; exact kk)) (hk _ _ _ h)
  next => exact h.elim
def o_lsub (k : sk_K) : sk_K := fun L st M => match st with
  | .inr (.inl y) :: .inr (.inl x) :: r => k L (.inr (.inl (x - y)) :: r) M
  | _ => False
theorem s_lsub (hd : decode (sk_bc w) pc = .ok (.lsub, 1)) (hk : sk_S w (pc + 1) k) : sk_S w pc (o_lsub k) := by
  intro L st M h
  unfold o_lsub at h
  split at h
  next y x r => exact sk_stk (fun _ _ _ _ _ _ _ _ _ _ _ _ _ _ _ hC _ kk => lv_lsub hC.1 hC.2.1 hd (by rw [← Int64.ofInt_sub]; exact kk)) (hk _ _ _ h)
  next => exact h.elim
def o_lmul (k : sk_K) : sk_K := fun L st M => match st with
  | .inr (.inl y) :: .inr (.inl x) :: r => k L (.inr (.inl (x * y)) :: r) M
  | _ => False
theorem s_lmul (hd : decode (sk_bc w) pc = .ok (.lmul, 1)) (hk : sk_S w (pc + 1) k) : sk_S w pc (o_lmul k) := by
  intro L st M h
  unfold o_lmul at h
  split at h
  next y x r => exact sk_stk (fun _ _ _ _ _ _ _ _ _ _ _ _ _ _ _ hC _ kk => lv_lmul hC.1 hC.2.1 hd (by rw [← Int64.ofInt_mul]; exact kk)) (hk _ _ _ h)
  next => exact h.elim
theorem sk_divl (x y : Int) : Int64.ofInt x / Int64.ofInt y = Int64.ofInt (Int.tdiv (sk_wl x) (sk_wl y)) := by
  apply Int64.toInt_inj.mp
  rw [Int64.toInt_div, Int64.toInt_ofInt (n := Int.tdiv (sk_wl x) (sk_wl y))]
  rfl
theorem sk_ofl (x : Int) : Int64.ofInt (sk_wl x) = Int64.ofInt x := by unfold sk_wl; rw [Int64.ofInt_toInt]
theorem sk_reml (x y : Int) : Int64.ofInt x - Int64.ofInt x / Int64.ofInt y * Int64.ofInt y = Int64.ofInt (Int.tmod (sk_wl x) (sk_wl y)) := by
  rw [sk_divl, ← sk_ofl x, ← sk_ofl y, ← Int64.ofInt_mul, ← Int64.ofInt_sub, Int.tmod_def, Int.mul_comm (sk_wl y)]
theorem sk_nel {y : Int} (h : sk_wl y ≠ 0) : ¬ Int64.ofInt y = 0 := fun e => h (by unfold sk_wl; rw [e]; rfl)
def o_ldiv (k : sk_K) : sk_K := fun L st M => match st with
  | .inr (.inl y) :: .inr (.inl x) :: r => sk_wl y ≠ 0 ∧ k L (.inr (.inl (Int.tdiv (sk_wl x) (sk_wl y))) :: r) M
  | _ => False
theorem s_ldiv (hd : decode (sk_bc w) pc = .ok (.ldiv, 1)) (hk : sk_S w (pc + 1) k) : sk_S w pc (o_ldiv k) := by
  intro L st M h
  unfold o_ldiv at h
  split at h
  next y x r => exact sk_stk (fun _ _ _ _ _ _ _ _ _ _ _ _ _ _ _ hC _ kk => lv_ldiv hC.1 hC.2.1 hd (sk_nel h.1) (by rw [sk_divl]; exact kk)) (hk _ _ _ h.2)
  next => exact h.elim
def o_lrem (k : sk_K) : sk_K := fun L st M => match st with
  | .inr (.inl y) :: .inr (.inl x) :: r => sk_wl y ≠ 0 ∧ k L (.inr (.inl (Int.tmod (sk_wl x) (sk_wl y))) :: r) M
  | _ => False
theorem s_lrem (hd : decode (sk_bc w) pc = .ok (.lrem, 1)) (hk : sk_S w (pc + 1) k) : sk_S w pc (o_lrem k) := by
  intro L st M h
  unfold o_lrem at h
  split at h
  next y x r => exact sk_stk (fun _ _ _ _ _ _ _ _ _ _ _ _ _ _ _ hC _ kk => lv_lrem hC.1 hC.2.1 hd (sk_nel h.1) (by rw [sk_reml]; exact kk)) (hk _ _ _ h.2)
  next => exact h.elim
def sk_landl (x y : Int) : Int := (Int64.ofInt x &&& Int64.ofInt y).toInt
def sk_lorl (x y : Int) : Int := (Int64.ofInt x ||| Int64.ofInt y).toInt
def sk_lshll (x y : Int) : Int := (Int64.ofInt x <<< ((Int32.ofInt y).toInt64 &&& 63)).toInt
def sk_lushrl (x y : Int) : Int := ((Int64.ofInt x).toUInt64 >>> ((Int32.ofInt y).toInt64.toUInt64 &&& Int64.toUInt64 63)).toInt64.toInt
def o_land (k : sk_K) : sk_K := fun L st M => match st with
  | .inr (.inl y) :: .inr (.inl x) :: r => k L (.inr (.inl (sk_landl x y)) :: r) M
  | _ => False
theorem s_land (hd : decode (sk_bc w) pc = .ok (.land, 1)) (hk : sk_S w (pc + 1) k) : sk_S w pc (o_land k) := by
  intro L st M h
  unfold o_land at h
  split at h
  next y x r => exact sk_stk (fun _ _ _ _ _ _ _ _ _ _ _ _ _ _ _ hC _ kk => lv_land hC.1 hC.2.1 hd (by simpa only [List.map_cons, sk_val, sk_landl, Int64.ofInt_toInt] using kk)) (hk _ _ _ h)
  next => exact h.elim
def o_lor (k : sk_K) : sk_K := fun L st M => match st with
  | .inr (.inl y) :: .inr (.inl x) :: r => k L (.inr (.inl (sk_lorl x y)) :: r) M
  | _ => False
theorem s_lor (hd : decode (sk_bc w) pc = .ok (.lor, 1)) (hk : sk_S w (pc + 1) k) : sk_S w pc (o_lor k) := by
  intro L st M h
  unfold o_lor at h
  split at h
  next y x r => exact sk_stk (fun _ _ _ _ _ _ _ _ _ _ _ _ _ _ _ hC _ kk => lv_lor hC.1 hC.2.1 hd (by simpa only [List.map_cons, sk_val, sk_lorl, Int64.ofInt_toInt] using kk)) (hk _ _ _ h)
  next => exact h.elim
def o_lshl (k : sk_K) : sk_K := fun L st M => match st with
  | .inl y :: .inr (.inl x) :: r => k L (.inr (.inl (sk_lshll x y)) :: r) M
  | _ => False
theorem s_lshl (hd : decode (sk_bc w) pc = .ok (.lshl, 1)) (hk : sk_S w (pc + 1) k) : sk_S w pc (o_lshl k) := by
  intro L st M h
  unfold o_lshl at h
  split at h
  next y x r => exact sk_stk (fun _ _ _ _ _ _ _ _ _ _ _ _ _ _ _ hC _ kk => lv_lshl hC.1 hC.2.1 hd rfl (by simpa only [List.map_cons, sk_val, sk_lshll, Int64.ofInt_toInt] using kk)) (hk _ _ _ h)
  next => exact h.elim
def o_lushr (k : sk_K) : sk_K := fun L st M => match st with
  | .inl y :: .inr (.inl x) :: r => k L (.inr (.inl (sk_lushrl x y)) :: r) M
  | _ => False
theorem s_lushr (hd : decode (sk_bc w) pc = .ok (.lushr, 1)) (hk : sk_S w (pc + 1) k) : sk_S w pc (o_lushr k) := by
  intro L st M h
  unfold o_lushr at h
  split at h
  next y x r => exact sk_stk (fun _ _ _ _ _ _ _ _ _ _ _ _ _ _ _ hC _ kk => lv_lushr hC.1 hC.2.1 hd rfl (by simpa only [List.map_cons, sk_val, sk_lushrl, Int64.ofInt_toInt] using kk)) (hk _ _ _ h)
  next => exact h.elim
def o_i2l (k : sk_K) : sk_K := fun L st M => match st with
  | .inl x :: r => k L (.inr (.inl (sk_w x)) :: r) M
  | _ => False
theorem s_i2l (hd : decode (sk_bc w) pc = .ok (.i2l, 1)) (hk : sk_S w (pc + 1) k) : sk_S w pc (o_i2l k) := by
  intro L st M h
  unfold o_i2l at h
  split at h
  next x r => exact sk_stk (fun _ _ _ _ _ _ _ _ _ _ _ _ _ _ _ hC _ kk => lv_i2l hC.1 hC.2.1 hd rfl kk) (hk _ _ _ h)
  next => exact h.elim
def o_l2i (k : sk_K) : sk_K := fun L st M => match st with
  | .inr (.inl x) :: r => k L (.inl (sk_wl x) :: r) M
  | _ => False
theorem s_l2i (hd : decode (sk_bc w) pc = .ok (.l2i, 1)) (hk : sk_S w (pc + 1) k) : sk_S w pc (o_l2i k) := by
  intro L st M h
  unfold o_l2i at h
  split at h
  next x r => exact sk_stk (fun _ _ _ _ _ _ _ _ _ _ _ _ _ _ _ hC _ kk => lv_l2i hC.1 hC.2.1 hd rfl kk) (hk _ _ _ h)
  next => exact h.elim
def sk_c (x : Int) : Int := ((Int32.ofInt x).toUInt32 % 65536).toInt32.toInt
def o_i2c (k : sk_K) : sk_K := fun L st M => match st with
  | .inl x :: r => k L (.inl (sk_c x) :: r) M
  | _ => False
theorem s_i2c (hd : decode (sk_bc w) pc = .ok (.i2c, 1)) (hk : sk_S w (pc + 1) k) : sk_S w pc (o_i2c k) := by
  intro L st M h
  unfold o_i2c at h
  split at h
  next x r => exact sk_stk (fun _ _ _ _ _ _ _ _ _ _ _ _ _ _ _ hC _ kk => lv_i2c hC.1 hC.2.1 hd rfl (by simpa only [List.map_cons, sk_val, sk_c, Int32.ofInt_toInt] using kk)) (hk _ _ _ h)
  next => exact h.elim
def sk_lcmp (x y : Int) : Int := if sk_wl y < sk_wl x then 1 else if sk_wl x = sk_wl y then 0 else -1
theorem sk_lcmp_eq (x y : Int) : lg_cmp (Int64.ofInt x) (Int64.ofInt y) = Int32.ofInt (sk_lcmp x y) := by
  unfold lg_cmp sk_lcmp
  simp only [gt_iff_lt, Int64.lt_iff_toInt_lt, ← Int64.toInt_inj]
  show (if sk_wl y < sk_wl x then (1 : Int32) else if sk_wl x = sk_wl y then 0 else -1) = _
  split
  · rfl
  · split <;> rfl
def o_lcmp (k : sk_K) : sk_K := fun L st M => match st with
  | .inr (.inl y) :: .inr (.inl x) :: r => k L (.inl (sk_lcmp x y) :: r) M
  | _ => False
theorem s_lcmp (hd : decode (sk_bc w) pc = .ok (.lcmp, 1)) (hk : sk_S w (pc + 1) k) : sk_S w pc (o_lcmp k) := by
  intro L st M h
  unfold o_lcmp at h
  split at h
  next y x r => exact sk_stk (fun _ _ _ _ _ _ _ _ _ _ _ _ _ _ _ hC _ kk => W.lcmp hC.1 hC.2.1 hd (by rw [sk_lcmp_eq]; exact kk)) (hk _ _ _ h)
  next => exact h.elim
/-- a store of two words -/
theorem sk_put2 {ls : Array Slot} {nL i : Nat} {L : List (Option sk_V)} {v : sk_V} (hk : sk_lok L i = true) (h : lv_has ls nL ((i, sk_val v) :: (sk_lv 0 L).filter (fun q => !(q.1 == i) && (!(q.1 == i + 1) && !(q.1 + 1 == i && q.2.category == 2))))) : lv_has ls nL (sk_lv 0 (sk_set (sk_set L i (some v)) (i + 1) none)) := by
  refine ⟨h.1, h.2.1, fun q hq => ?_⟩
  obtain ⟨n, u, h1, rfl⟩ := sk_lv_mem' _ _ _ hq
  rcases sk_nth_set _ (i + 1) n _ _ h1 with ⟨rfl, h2⟩ | ⟨h2, h3⟩
  · cases h2
  rcases sk_nth_set L i n _ _ h3 with ⟨rfl, h4⟩ | ⟨h4, h5⟩
  · cases h4
    rw [Nat.zero_add]
    exact h.2.2 _ List.mem_cons_self
  · refine h.2.2 _ (List.mem_cons_of_mem _ (List.mem_filter.mpr ⟨sk_lv_mem L 0 n u h5, ?_⟩))
    have e1 : ((0 + n) == i) = false := by simp; omega
    have e3 : ((0 + n) == i + 1) = false := by simp; omega
    simp only [e1, e3, Bool.not_false, Bool.true_and]
    by_cases hi : n + 1 = i
    · subst hi
      simp only [sk_lok, h5] at hk
      have hc := sk_cat1 (v := u) (by simpa using hk)
      simp [hc]
    · simp [hi]
def o_lstore (n : Nat) (k : sk_K) : sk_K := fun L st M => match st with
  | .inr (.inl x) :: r => sk_lok L n = true ∧ k (sk_set (sk_set L n (some (.inr (.inl x)))) (n + 1) none) r M
  | _ => False
theorem s_lstore {n : Nat} (hd : decode (sk_bc w) pc = .ok (.lstore n, 2)) (hn : n + 1 < w.2.2.2.2.1.2.2.1) (hk : sk_S w (pc + 2) k) : sk_S w pc (o_lstore n k) := by
  intro L st M h
  unfold o_lstore at h
  split at h
  next x r =>
    intro p e s m args below meth c H locs cells slots mc ms ls hC h1 h2 hH hLo hl
    exact lv_lstore hC.1 hC.2.1 hd hl hn rfl (fun ls' hl' => hk _ _ _ h.2 p e s m args below meth c H locs cells slots mc ms ls' hC h1 h2 hH hLo (sk_put2 h.1 hl'))
  next => exact h.elim
theorem s_lstore_n {n : Fin 4} {i : Nat} (hd : decode (sk_bc w) pc = .ok (.lstore_n n, 1)) (hi : (n : Nat) = i) (hn : i + 1 < w.2.2.2.2.1.2.2.1) (hk : sk_S w (pc + 1) k) : sk_S w pc (o_lstore i k) := by
  subst hi
  intro L st M h
  unfold o_lstore at h
  split at h
  next x r =>
    intro p e s m args below meth c H locs cells slots mc ms ls hC h1 h2 hH hLo hl
    exact lv_lstore_n hC.1 hC.2.1 hd rfl hl hn rfl (fun ls' hl' => hk _ _ _ h.2 p e s m args below meth c H locs cells slots mc ms ls' hC h1 h2 hH hLo (sk_put2 h.1 hl'))
  next => exact h.elim
/-! ===== tables of branches ===== -/
def sk_swt (x : Int) : Int → List sk_K → sk_K → sk_K
  | _, [], kd => kd
  | lo, a :: ks, kd => fun L r M => (x = lo → a L r M) ∧ (x ≠ lo → sk_swt x (lo + 1) ks kd L r M)
def o_tsw (lo : Int) (ks : List sk_K) (kd : sk_K) : sk_K := fun L st M => match st with
  | .inl x :: r => sk_swt (sk_w x) lo ks kd L r M
  | _ => False
theorem sk_swt_in {x : Int} {L : List (Option sk_V)} {r : List sk_V} {M : sk_M} {kd : sk_K} : ∀ (ks : List sk_K) (lo : Int), sk_swt x lo ks kd L r M → (x < lo ∨ lo + ks.length ≤ x → kd L r M) ∧ ∀ (i : Nat) (a : sk_K), ks[i]? = some a → x = lo + i → a L r M
  | [], lo, h => ⟨fun _ => h, fun i a hi => by simp at hi⟩
  | b :: ks, lo, h => by
    by_cases hx : x = lo
    · refine ⟨fun g => by simp at g; omega, fun i a hi hxi => ?_⟩
      have hi0 : i = 0 := by omega
      subst hi0
      simp at hi
      subst hi
      exact h.1 hx
    · obtain ⟨h1, h2⟩ := sk_swt_in ks (lo + 1) (h.2 hx)
      refine ⟨fun g => h1 (by simp at g; omega), fun i a hi hxi => ?_⟩
      cases i with
      | zero => exact absurd (by simpa using hxi) hx
      | succ i =>
        rw [List.getElem?_cons_succ] at hi
        exact h2 i a hi (by rw [hxi]; push_cast; omega)
theorem s_tsw {lo hi dflt : Int} {offs : Array Int} {len td : Nat} {ks : List sk_K} {kd : sk_K} {tg : List Nat} {n : Nat} (hd : decode (sk_bc w) pc = .ok (.tableswitch dflt lo hi offs, len)) (hn : ks.length = n) (hhi : lo + n = hi + 1) (ho : offs.size = n) (htd : (pc : Int) + dflt = (td : Int)) (hkd : sk_S w td kd)
    (htg : ∀ (i : Nat) (off : Int), offs[i]? = some off → ∃ t : Nat, tg[i]? = some t ∧ (pc : Int) + off = (t : Int)) (hks : ∀ (i : Nat) (a : sk_K) (t : Nat), ks[i]? = some a → tg[i]? = some t → sk_S w t a) : sk_S w pc (o_tsw lo ks kd) := by
  intro L st M h
  unfold o_tsw at h
  split at h
  next x r =>
    obtain ⟨h1, h2⟩ := sk_swt_in ks lo h
    by_cases hx : sk_w x < lo ∨ hi < sk_w x
    · exact sk_stk (fun _ _ _ _ _ _ _ _ _ _ _ _ _ _ _ hC _ kk => lv_tableOut hC.1 hC.2.1 hd hx htd kk) (hkd _ _ _ (h1 (by omega)))
    · have hi' : (sk_w x - lo).toNat < ks.length := by omega
      obtain ⟨a, ha⟩ : ∃ a, ks[(sk_w x - lo).toNat]? = some a := ⟨_, List.getElem?_eq_getElem hi'⟩
      obtain ⟨off, hoff⟩ : ∃ off, offs[(sk_w x - lo).toNat]? = some off := ⟨_, Array.getElem?_eq_getElem (by omega)⟩
      obtain ⟨t, ht, hpt⟩ := htg _ off hoff
      exact sk_stk (fun _ _ _ _ _ _ _ _ _ _ _ _ _ _ _ hC _ kk => lv_tableIn hC.1 hC.2.1 hd (fun z => hx (Or.inl z)) (fun z => hx (Or.inr z)) hoff hpt kk) (hks _ a t ha ht _ _ _ (h2 _ a ha (by omega)))
  next => exact h.elim
/-! ===== static arrays of Rules ===== -/
def o_gets (w : sk_W) (q : Nat) (k : sk_K) : sk_K := fun L st M => k L (.inr (.inr (some (w.1.2.2.2.2 q))) :: st) M
theorem s_gets {q index : Nat} (hd : decode (sk_bc w) pc = .ok (.getstatic index, 3)) (hq : q < 6) (hl : Cond.fieldLink w.2.2.2.2.1.1.cls index "ScrapedSkin$Rules" (sk_sn q) "[I" ∈ lw_tbl) (hk : sk_S w (pc + 3) k) : sk_S w pc (o_gets w q k) := by
  intro L st M h p e s m args below meth c H locs cells slots mc ms ls hC h1 h2 hH hLo hl'
  have hkk := hk _ _ _ h p e s m args below meth c H locs cells slots mc ms ls hC h1 h2 hH hLo hl'
  obtain ⟨hx, hb, -, -, -, hown, -, hW, hg⟩ := hC
  obtain ⟨cf, kf, fi, f, a, cell, e1, e2, e3, e4, e5, e6, e7, e8⟩ := va_Z.moved hW.alike (hg.2.2.2.1 q hq)
  have ha : a < sk_base w.1 := Nat.not_le.mp e8
  exact W.gets hx hb hown (sk_use hl rfl hg hW args) e1 e2 e3 e4 ((hH.2.2.1 a ha).trans e5) (fun z => by rw [z] at e6; cases e6) e7 rfl hd hkk
end LONG
