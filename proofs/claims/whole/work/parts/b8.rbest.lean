/-! ===== orders and quires: equal on both sides ===== -/
theorem jr_at {v : Int → Int → Int} {o : Int} : ∀ (k : Nat) (i : Int) (w : Int → Int) (o' t' : Int), 0 ≤ i → i + k ≤ 6 → 0 ≤ t' → t' < 6 → sk_fd (fun t w => sk_up w (6 * o + t) (v o t)) i k w (6 * o' + t') = if o' = o ∧ i ≤ t' ∧ t' < i + k then v o t' else w (6 * o' + t')
  | 0, i, w, o', t', _, _, _, _ => by simp only [sk_fd]; rw [if_neg (by push_cast; omega)]
  | k + 1, i, w, o', t', i0, i6, t0, t6 => by
    simp only [sk_fd]
    push_cast at i6 ⊢
    rw [jr_at k (i + 1) _ o' t' (by omega) (by omega) t0 t6]
    by_cases e : o' = o ∧ t' = i
    · rw [if_neg (by omega), if_pos (by omega), e.1, e.2, sk_up_self]
    · by_cases z : o' = o ∧ i + 1 ≤ t' ∧ t' < i + 1 + k
      · rw [if_pos z, if_pos (by omega)]
      · rw [if_neg z, if_neg (by omega), sk_up_ne _ _ (by omega)]
theorem jd_at {v : Int → Int → Int} {n : Int} (n0 : 0 ≤ n) (n6 : n ≤ 6) : ∀ (k : Nat) (i : Int) (w : Int → Int) (o' t' : Int), 0 ≤ i → i + k ≤ 6 → 0 ≤ t' → t' < n → sk_fd (fun o w => x_jr v n o w) i k w (6 * o' + t') = if i ≤ o' ∧ o' < i + k then v o' t' else w (6 * o' + t')
  | 0, i, w, o', t', _, _, _, _ => by simp only [sk_fd]; rw [if_neg (by push_cast; omega)]
  | k + 1, i, w, o', t', i0, i6, t0, t6 => by
    simp only [sk_fd]
    push_cast at i6 ⊢
    rw [jd_at n0 n6 k (i + 1) _ o' t' (by omega) (by omega) t0 t6]
    have e9 : x_jr v n i w (6 * o' + t') = if o' = i ∧ 0 ≤ t' ∧ t' < 0 + (n.toNat : Int) then v i t' else w (6 * o' + t') := by unfold x_jr; exact jr_at n.toNat 0 w o' t' (by omega) (by omega) t0 (by omega)
    by_cases e : o' = i
    · rw [if_neg (by omega), if_pos (by omega), e9, if_pos ⟨e, by omega, by omega⟩, e]
    · by_cases z : i + 1 ≤ o' ∧ o' < i + 1 + k
      · rw [if_pos z, if_pos (by omega)]
      · rw [if_neg z, if_neg (by omega), e9, if_neg (by omega)]
theorem x_jd_at {v : Int → Int → Int} {n o t : Int} {w : Int → Int} (n6 : n ≤ 6) (o0 : 0 ≤ o) (o1 : o < n) (t0 : 0 ≤ t) (t1 : t < n) : x_jd v n w (6 * o + t) = v o t := by
  unfold x_jd
  rw [jd_at (by omega) n6 n.toNat 0 w o t (by omega) (by omega) t0 t1, if_pos (by omega)]
theorem lf_c (x : Nat) (r : List Nat) {j : Int} (h : 0 ≤ j) : lf (x :: r) (1 + j) = lf r j := by
  unfold lf
  rw [show (1 + j).toNat = j.toNat + 1 by omega, List.getD_cons_succ]
theorem lf_0 (x : Nat) (r : List Nat) : lf (x :: r) 0 = x := rfl
theorem dig_l : ∀ (p : List Nat) (a : Int), sk_fd (fun i acc => 10 * acc + lf p i) 0 p.length a = dgs a p
  | [], _ => rfl
  | x :: r, a => by
    simp only [List.length_cons, sk_fd]
    have e := sk_fd_sh (fun i acc => 10 * acc + lf (x :: r) i) 1 r.length 0 (10 * a + lf (x :: r) 0)
    rw [show (1 : Int) + 0 = 0 + 1 by omega] at e
    rw [e, lf_0]
    have e2 : sk_fd (fun j acc => 10 * acc + lf (x :: r) (1 + j)) 0 r.length (10 * a + (x : Int)) = sk_fd (fun i acc => 10 * acc + lf r i) 0 r.length (10 * a + (x : Int)) := sk_fd_congr _ _ _ (fun j s a b => by (try simp only []); rw [lf_c _ _ a])
    rw [e2, dig_l r]
    rfl
theorem lsm_sm (g : Int → Int) : ∀ r : List Nat, sk_sm (fun j => g (lf r j)) 0 r.length = lsm (fun x => g x) r
  | [] => rfl
  | x :: r => by
    simp only [List.length_cons, sk_sm, lsm]
    have e := sk_sm_shift (fun j => g (lf (x :: r) j)) 1 r.length 0
    rw [show (1 : Int) + 0 = 0 + 1 by omega] at e
    rw [e, lf_0, ← lsm_sm g r]
    congr 1
    exact sk_sm_congr _ _ (fun j a b => by (try simp only []); rw [lf_c _ _ a])
/-- the first of a row against the rest -/
def fst9 (w : Int → Int) (nb : Bool) (a : Nat) : List Nat → Int
  | [] => 0
  | b :: r => match nb with
    | true => w (6 * a + b)
    | false => lsm (fun x => w (6 * a + x)) (b :: r)
theorem rk_sum_l (w : Int → Int) (nb : Bool) (x : Nat) (r : List Nat) : rk_sum w (lf (x :: r)) ((r.length : Int) + 1) nb = fst9 w nb x r + rk_sum w (lf r) r.length nb := by
  unfold rk_sum
  rw [show ((r.length : Int) + 1).toNat = r.length + 1 by omega, show ((r.length : Int)).toNat = r.length by omega]
  simp only [sk_sm]
  have e := sk_sm_shift (fun i => sk_sm (fun j => w (6 * lf (x :: r) i + lf (x :: r) j)) (i + 1) (rk_last ((r.length : Int) + 1) nb i - (i + 1)).toNat) 1 r.length 0
  rw [show (1 : Int) + 0 = 0 + 1 by omega] at e
  rw [e, lf_0]
  congr 1
  · have e2 := sk_sm_shift (fun j => w (6 * (x : Int) + lf (x :: r) j)) 1 (rk_last ((r.length : Int) + 1) nb 0 - (0 + 1)).toNat 0
    rw [show (1 : Int) + 0 = 0 + 1 by omega] at e2
    rw [e2]
    cases r with
    | nil =>
      have : (rk_last (((([] : List Nat).length : Nat) : Int) + 1) nb 0 - (0 + 1)).toNat = 0 := by
        cases nb
        · simp [rk_last]
        · have := sk_min_in ((([] : List Nat).length : Int) + 1) (0 + 2)
          simp only [rk_last, List.length_nil] at this ⊢
          omega
      rw [this]
      rfl
    | cons b r =>
      cases nb with
      | true =>
        have : (rk_last ((((b :: r).length : Nat) : Int) + 1) true 0 - (0 + 1)).toNat = 1 := by
          have e3 : sk_min ((((b :: r).length : Nat) : Int) + 1) (0 + 2) = 2 := by simp only [List.length_cons]; unfold sk_min; split <;> omega
          simp only [rk_last]
          rw [e3]
          rfl
        rw [this]
        simp only [sk_sm, fst9, Int.add_zero]
        have := lf_c x (b :: r) (j := 0) (by omega)
        rw [Int.add_zero] at this
        rw [this, lf_0]
      | false =>
        have : (rk_last ((((b :: r).length : Nat) : Int) + 1) false 0 - (0 + 1)).toNat = (b :: r).length := by simp only [rk_last]; omega
        rw [this]
        simp only [fst9]
        rw [← lsm_sm (fun y => w (6 * (x : Int) + y)) (b :: r)]
        exact sk_sm_congr _ _ (fun j a c => by (try simp only []); rw [lf_c _ _ a])
  · refine sk_sm_congr _ _ (fun i a b => ?_)
    (try simp only [])
    rw [lf_c _ _ a]
    have el : (rk_last ((r.length : Int) + 1) nb (1 + i) - (1 + i + 1)).toNat = (rk_last (r.length : Int) nb i - (i + 1)).toNat := by
      cases nb with
      | true =>
        simp only [rk_last]
        have : sk_min ((r.length : Int) + 1) (1 + i + 2) = sk_min (r.length : Int) (i + 2) + 1 := by unfold sk_min; split <;> split <;> omega
        rw [this]
        congr 1
        omega
      | false => simp only [rk_last]; congr 1; omega
    rw [el]
    have e4 := sk_sm_shift (fun j => w (6 * lf r i + lf (x :: r) j)) 1 (rk_last (r.length : Int) nb i - (i + 1)).toNat (i + 1)
    rw [show (1 : Int) + (i + 1) = 1 + i + 1 by omega] at e4
    rw [e4]
    exact sk_sm_congr _ _ (fun j c d => by (try simp only []); rw [lf_c _ _ (by omega)])
theorem qs_l {w : Int → Int} {mt : Int → Int → Int} {n : Nat} (hw : ∀ a b : Nat, a < n → b < n → w (6 * a + b) = mt a b) : ∀ (r : List Nat) (a : Nat), a < n → (∀ x ∈ r, x < n) → rk_sum w (lf (a :: r)) ((r.length : Int) + 1) true = qs mt a r
  | [], a, _, _ => by rw [rk_sum_l]; rfl
  | b :: r, a, ha, hr => by
    rw [rk_sum_l]
    have hb := hr b List.mem_cons_self
    have ih := qs_l hw r b hb (fun x hx => hr x (List.mem_cons_of_mem _ hx))
    rw [show (((b :: r).length : Nat) : Int) = (r.length : Int) + 1 by simp, ih]
    simp only [fst9, qs]
    rw [hw a b ha hb, if_neg (by omega)]
def tt (ov : Int → Int → Int) : List Nat → Int
  | [] => 0
  | a :: r => lsm (fun b => ov a b) r + tt ov r
theorem lsm_add (f g : Nat → Int) : ∀ l, lsm (fun x => f x + g x) l = lsm f l + lsm g l
  | [] => rfl
  | x :: l => by simp only [lsm]; rw [lsm_add f g l]; omega
theorem lsm_neg (f : Nat → Int) : ∀ l, lsm (fun x => -f x) l = -lsm f l
  | [] => rfl
  | x :: l => by simp only [lsm]; rw [lsm_neg f l]; omega
theorem lsm_congr {f g : Nat → Int} : ∀ l : List Nat, (∀ x ∈ l, f x = g x) → lsm f l = lsm g l
  | [], _ => rfl
  | x :: l, h => by simp only [lsm]; rw [h x List.mem_cons_self, lsm_congr l (fun y hy => h y (List.mem_cons_of_mem _ hy))]
theorem os_tt (ov : Int → Int → Int) : ∀ (p pre : List Nat), os ov pre p = lsm (fun x => lsm (fun h => ov x h) p) pre + tt ov p
  | [], pre => by
    have : lsm (fun x => lsm (fun h => ov x h) []) pre = 0 := by
      induction pre with
      | nil => rfl
      | cons a l ih => simp only [lsm] at ih ⊢; omega
    rw [this]; rfl
  | h :: r, pre => by
    simp only [os, tt]
    rw [os_tt ov r (h :: pre)]
    simp only [lsm]
    have := lsm_add (fun x => ov x h) (fun x => lsm (fun b => ov x b) r) pre
    rw [this]
    omega
theorem os_l {w : Int → Int} {ov : Int → Int → Int} {n : Nat} (hw : ∀ a b : Nat, a < n → b < n → w (6 * a + b) = -ov a b) : ∀ (p : List Nat), (∀ x ∈ p, x < n) → rk_sum w (lf p) p.length false = -tt ov p
  | [], _ => rfl
  | a :: r, h => by
    have ha := h a List.mem_cons_self
    have hr := fun x hx => h x (List.mem_cons_of_mem a hx)
    rw [show (((a :: r).length : Nat) : Int) = (r.length : Int) + 1 by simp, rk_sum_l, os_l hw r hr]
    have : fst9 w false a r = -lsm (fun b => ov a b) r := by
      cases r with
      | nil => rfl
      | cons b r =>
        simp only [fst9]
        rw [← lsm_neg]
        exact lsm_congr _ (fun x hx => hw a x ha (hr x hx))
    rw [this]
    simp only [tt]
    omega
theorem dgs_nn : ∀ (p : List Nat) (a : Int), 0 ≤ a → 0 ≤ dgs a p
  | [], a, h => h
  | x :: r, a, h => dgs_nn r (10 * a + x) (by omega)
theorem fold_q {w : Int → Int} {mt : Int → Int → Int} {n : Nat} (n1 : 1 ≤ n) (hw : ∀ a b : Nat, a < n → b < n → w (6 * a + b) = mt a b) : ∀ (l : List (List Nat)) (s : Int × Int), 0 ≤ s.1 → (∀ p ∈ l, p.length = n ∧ ∀ x ∈ p, x < n) → l.foldl (rup w n true) s = l.foldl (fun s p => qup s (dgs 0 p) (0 + qs mt (-1) p)) s
  | [], _, _, _ => rfl
  | p :: l, s, s0, h => by
    simp only [List.foldl]
    obtain ⟨hl, hx⟩ := h p List.mem_cons_self
    have e1 : rk_dig (lf p) n = dgs 0 p := by unfold rk_dig; rw [← hl, show ((p.length : Int)).toNat = p.length by omega]; exact dig_l p 0
    have e2 : rk_sum w (lf p) n true = qs mt (-1) p := by
      cases p with
      | nil => simp at hl; omega
      | cons a r =>
        rw [← hl, show (((a :: r).length : Nat) : Int) = (r.length : Int) + 1 by simp]
        rw [qs_l hw r a (hx a List.mem_cons_self) (fun x hy => hx x (List.mem_cons_of_mem _ hy))]
        simp only [qs, if_true, Int.zero_add]
    have e3 : rup w n true s p = qup s (dgs 0 p) (0 + qs mt (-1) p) := by
      unfold rup qup
      rw [e1, e2, Int.zero_add]
      by_cases z : s.2 < qs mt (-1) p
      · rw [if_pos z, if_pos (Or.inr z)]
      · rw [if_neg z, if_neg (by omega)]
    rw [e3]
    refine fold_q n1 hw l _ ?_ (fun q hq => h q (List.mem_cons_of_mem _ hq))
    unfold qup
    split
    · exact dgs_nn p 0 (by omega)
    · exact s0
theorem fold_o {w : Int → Int} {ov : Int → Int → Int} {n : Nat} (hw : ∀ a b : Nat, a < n → b < n → w (6 * a + b) = -ov a b) : ∀ (l : List (List Nat)) (s t : Int × Int), 0 ≤ s.1 → s.1 = t.1 → s.2 = -t.2 → (∀ p ∈ l, p.length = n ∧ ∀ x ∈ p, x < n) → (l.foldl (rup w n false) s).1 = (l.foldl (fun s p => oup s (dgs 0 p) (0 + os ov [] p)) t).1 ∧ (l.foldl (rup w n false) s).2 = -(l.foldl (fun s p => oup s (dgs 0 p) (0 + os ov [] p)) t).2
  | [], _, _, _, h1, h2, _ => ⟨h1, h2⟩
  | p :: l, s, t, s0, h1, h2, h => by
    simp only [List.foldl]
    obtain ⟨hl, hx⟩ := h p List.mem_cons_self
    have e1 : rk_dig (lf p) n = dgs 0 p := by unfold rk_dig; rw [← hl, show ((p.length : Int)).toNat = p.length by omega]; exact dig_l p 0
    have e2 : rk_sum w (lf p) n false = -os ov [] p := by
      rw [← hl, os_l hw p hx, os_tt]
      simp only [lsm, Int.zero_add]
    have d0 := dgs_nn p 0 (by omega)
    by_cases z : s.2 < -os ov [] p
    · have f1 : rup w n false s p = (dgs 0 p, -os ov [] p) := by unfold rup; rw [e1, e2, if_pos z]
      have f2 : oup t (dgs 0 p) (0 + os ov [] p) = (dgs 0 p, os ov [] p) := by unfold oup; rw [Int.zero_add, if_pos (Or.inr (by omega))]
      rw [f1, f2]
      exact fold_o hw l _ _ d0 rfl rfl (fun q hq => h q (List.mem_cons_of_mem _ hq))
    · have f1 : rup w n false s p = s := by unfold rup; rw [e2, if_neg z]
      have f2 : oup t (dgs 0 p) (0 + os ov [] p) = t := by unfold oup; rw [Int.zero_add, if_neg (by omega)]
      rw [f1, f2]
      exact fold_o hw l _ _ s0 h1 h2 (fun q hq => h q (List.mem_cons_of_mem _ hq))
theorem id_1 {n : Nat} (n6 : n ≤ 6) {r0 : Int → Int} (h : rk_id r0 n) : agr r0 (lf (tl (fun i => i) 0 n)) n ∧ rk_ok r0 n := by
  have l := lf_tl (r := fun i => i) (n := n) (fun i a _ => a)
  exact ⟨fun i a b => (h i a b).trans (l i a b).symm, fun i a b => by rw [h i a b]; omega⟩
theorem quire_eq {v mt : Int → Int → Int} {n : Nat} {kw r0 : Int → Int} {z : Int} (n1 : 1 ≤ n) (n6 : n ≤ 6) (h : rk_id r0 n) (hv : ∀ a b : Int, 0 ≤ a → a < n → 0 ≤ b → b < n → v a b = mt a b) : x_sk v n true kw r0 = tq_b mt n n 0 0 0 (-1) (-1, z) := by
  obtain ⟨ag, ok⟩ := id_1 n6 h
  have hw : ∀ a b : Nat, a < n → b < n → x_jd v n kw (6 * a + b) = mt a b := fun a b ha hb => by rw [x_jd_at (by omega) (by omega) (by omega) (by omega) (by omega)]; exact hv a b (by omega) (by omega) (by omega) (by omega)
  have hall := cps_len n n []
  rw [tq_fold mt n n6 n 0 [] 0 0 (-1) (-1, z) mkg_0, en n n1 n6]
  rw [en n n1 n6] at hall
  unfold x_sk
  rw [rk_fold _ true n n1 n6 719 (tl (fun i => i) 0 n) r0 _ _ ag ok, rk_dig_c ag, rk_sum_c ag]
  have f := fold_q n1 hw [tl (fun i => i) 0 n] (0, rk_sum (x_jd v n kw) (lf (tl (fun i => i) 0 n)) n true - 1) (by simp) (fun p hp => hall p (by rw [List.mem_singleton.mp hp]; exact List.mem_cons_self))
  simp only [List.foldl] at f ⊢
  have g1 : rup (x_jd v n kw) n true (0, rk_sum (x_jd v n kw) (lf (tl (fun i => i) 0 n)) n true - 1) (tl (fun i => i) 0 n) = (rk_dig (lf (tl (fun i => i) 0 n)) n, rk_sum (x_jd v n kw) (lf (tl (fun i => i) 0 n)) n true) := by unfold rup; (try simp only []); rw [if_pos (by omega)]
  obtain ⟨hl, hx⟩ := hall (tl (fun i => i) 0 n) List.mem_cons_self
  have e1 : rk_dig (lf (tl (fun i => i) 0 n)) n = dgs 0 (tl (fun i => i) 0 n) := by
    have := dig_l (tl (fun i => i) 0 n) 0
    rw [hl] at this
    unfold rk_dig
    rw [show ((n : Int)).toNat = n by omega]
    exact this
  have e2 : rk_sum (x_jd v n kw) (lf (tl (fun i => i) 0 n)) n true = qs mt (-1) (tl (fun i => i) 0 n) := by
    have k : ∀ p : List Nat, p.length = n → (∀ x ∈ p, x < n) → rk_sum (x_jd v n kw) (lf p) n true = qs mt (-1) p := by
      intro p hl hx
      cases p with
      | nil => simp at hl; omega
      | cons a r =>
        rw [← hl, show (((a :: r).length : Nat) : Int) = (r.length : Int) + 1 by simp]
        rw [show x_jd v ((r.length : Int) + 1) kw = x_jd v n kw by rw [← hl]; simp]
        rw [qs_l hw r a (hx a List.mem_cons_self) (fun x hy => hx x (List.mem_cons_of_mem _ hy))]
        simp only [qs, if_true, Int.zero_add]
    exact k _ hl hx
  have e3 : qup (-1, z) (dgs 0 (tl (fun i => i) 0 n)) (0 + qs mt (-1) (tl (fun i => i) 0 n)) = (dgs 0 (tl (fun i => i) 0 n), qs mt (-1) (tl (fun i => i) 0 n)) := by unfold qup; rw [Int.zero_add, if_pos (Or.inl rfl)]
  rw [e3, e1, e2]
  exact fold_q n1 hw _ _ (dgs_nn _ 0 (by omega)) (fun p hp => hall p (List.mem_cons_of_mem _ hp))
theorem order_eq {v ov : Int → Int → Int} {n : Nat} {kw r0 pl : Int → Int} {z : Int} (n1 : 1 ≤ n) (n6 : n ≤ 6) (h : rk_id r0 n) (hv : ∀ a b : Int, 0 ≤ a → a < n → 0 ≤ b → b < n → v a b = -ov a b) : (x_sk v n false kw r0).1 = (to_b ov n n 0 0 0 0 (pl, -1, z)).2.1 ∧ -(x_sk v n false kw r0).2 = (to_b ov n n 0 0 0 0 (pl, -1, z)).2.2 := by
  obtain ⟨ag, ok⟩ := id_1 n6 h
  have hw : ∀ a b : Nat, a < n → b < n → x_jd v n kw (6 * a + b) = -ov a b := fun a b ha hb => by rw [x_jd_at (by omega) (by omega) (by omega) (by omega) (by omega)]; exact hv a b (by omega) (by omega) (by omega) (by omega)
  have hall := cps_len n n []
  have tf := (to_fold ov n n6 n 0 0 [] 0 0 (pl, -1, z) mkg_0 (fun h => rfl)).1
  rw [show (((0 : Nat) : Int)) = 0 from rfl] at tf
  rw [tf, en n n1 n6]
  rw [en n n1 n6] at hall
  obtain ⟨hl, hx⟩ := hall (tl (fun i => i) 0 n) List.mem_cons_self
  unfold x_sk
  rw [rk_fold _ false n n1 n6 719 (tl (fun i => i) 0 n) r0 _ _ ag ok, rk_dig_c ag, rk_sum_c ag]
  simp only [List.foldl]
  have e1 : rk_dig (lf (tl (fun i => i) 0 n)) n = dgs 0 (tl (fun i => i) 0 n) := by
    have := dig_l (tl (fun i => i) 0 n) 0
    rw [hl] at this
    unfold rk_dig
    rw [show ((n : Int)).toNat = n by omega]
    exact this
  have e2 : rk_sum (x_jd v n kw) (lf (tl (fun i => i) 0 n)) n false = -os ov [] (tl (fun i => i) 0 n) := by
    have := os_l hw (tl (fun i => i) 0 n) hx
    rw [hl] at this
    rw [this, os_tt]
    simp only [lsm, Int.zero_add]
  have e3 : oup (-1, z) (dgs 0 (tl (fun i => i) 0 n)) (0 + os ov [] (tl (fun i => i) 0 n)) = (dgs 0 (tl (fun i => i) 0 n), os ov [] (tl (fun i => i) 0 n)) := by unfold oup; rw [Int.zero_add, if_pos (Or.inl rfl)]
  rw [e3, e1, e2]
  have f := fold_o hw (nxs n 719 (tl (fun i => i) 0 n)) (dgs 0 (tl (fun i => i) 0 n), -os ov [] (tl (fun i => i) 0 n)) (dgs 0 (tl (fun i => i) 0 n), os ov [] (tl (fun i => i) 0 n)) (dgs_nn _ 0 (by omega)) rfl rfl (fun p hp => hall p (List.mem_cons_of_mem _ hp))
  exact ⟨f.1, by rw [f.2]; omega⟩
