/-! ===== orders and quires: the best of all rows on both sides ===== -/
theorem bt_1 : ∀ s : Nat, s < 64 → ∀ h : Nat, h < 6 → ∀ q : Nat, q < 6 → (sk_and (sk_shr (sk_or (s : Int) (sk_shl 1 (h : Int))) (q : Int)) 1 = 1 ↔ (sk_and (sk_shr (s : Int) (q : Int)) 1 = 1 ∨ q = h)) := by decide +kernel
theorem bt_z : ∀ q : Nat, q < 6 → ¬ sk_and (sk_shr 0 (q : Int)) 1 = 1 := by decide +kernel
def mkg (gone : Int) (pre : List Nat) : Prop := 0 ≤ gone ∧ gone < 64 ∧ ∀ q : Nat, q < 6 → (sk_and (sk_shr gone (q : Int)) 1 = 1 ↔ q ∈ pre)
theorem mkg_0 : mkg 0 [] := ⟨by omega, by omega, fun q hq => by simp only [List.not_mem_nil, iff_false]; exact bt_z q hq⟩
theorem mkg_s {gone : Int} {pre : List Nat} {h : Nat} (hm : mkg gone pre) (h6 : h < 6) : mkg (sk_or gone (sk_shl 1 (h : Int))) (h :: pre) := by
  obtain ⟨a, b, c⟩ := hm
  have k := bt_in (s := gone) (w := h) a b (by omega) (by omega)
  refine ⟨k.2.1, k.2.2, fun q hq => ?_⟩
  have e : gone = ((gone.toNat : Nat) : Int) := by omega
  have k1 := bt_1 gone.toNat (by omega) h h6 q hq
  rw [← e] at k1
  rw [k1, c q hq, List.mem_cons]
  exact ⟨fun z => z.elim Or.inr Or.inl, fun z => z.elim Or.inr Or.inl⟩
theorem fold_congr {α β : Type} {f g : β → α → β} : ∀ (l : List α) (s : β), (∀ s a, a ∈ l → f s a = g s a) → l.foldl f s = l.foldl g s
  | [], _, _ => rfl
  | a :: l, s, h => by
    simp only [List.foldl]
    rw [h s a List.mem_cons_self, fold_congr l _ (fun s b hb => h s b (List.mem_cons_of_mem _ hb))]
theorem fold_fm {α β γ : Type} (f : γ → β → γ) (g : α → List β) : ∀ (l : List α) (s : γ), (l.flatMap g).foldl f s = l.foldl (fun s a => (g a).foldl f s) s
  | [], _ => rfl
  | a :: l, s => by simp only [List.flatMap_cons, List.foldl_append, List.foldl]; exact fold_fm f g l _
theorem fold_mp {α β γ : Type} (f : γ → β → γ) (g : α → β) : ∀ (l : List α) (s : γ), (l.map g).foldl f s = l.foldl (fun s a => f s (g a)) s
  | [], _ => rfl
  | a :: l, s => by simp only [List.map_cons, List.foldl]; exact fold_mp f g l _
theorem sk_fd_rg {α : Type} (F : Int → α → α) : ∀ (n i : Nat) (s : α), sk_fd F i n s = (List.range' i n).foldl (fun s (h : Nat) => F (h : Int) s) s
  | 0, _, _ => rfl
  | n + 1, i, s => by
    simp only [sk_fd, List.range'_succ, List.foldl]
    rw [show ((i : Int) + 1) = ((i + 1 : Nat) : Int) by push_cast; rfl]
    exact sk_fd_rg F n (i + 1) _
def dgs (row : Int) (p : List Nat) : Int := p.foldl (fun a (h : Nat) => 10 * a + (h : Int)) row
def qs (mt : Int → Int → Int) : Int → List Nat → Int
  | _, [] => 0
  | last, w :: r => (if last = -1 then 0 else mt last w) + qs mt w r
def qup (s : Int × Int) (r x : Int) : Int × Int := if s.1 = -1 ∨ s.2 < x then (r, x) else s
theorem tq_fold (mt : Int → Int → Int) (n : Nat) (n6 : n ≤ 6) : ∀ (m : Nat) (gone : Int) (pre : List Nat) (row sum last : Int) (s : Int × Int), mkg gone pre → tq_b mt n m gone row sum last s = (cps n m pre).foldl (fun s p => qup s (dgs row p) (sum + qs mt last p)) s := by
  intro m
  induction m with
  | zero =>
    intro gone pre row sum last s _
    simp only [tq_b, cps, List.foldl, qs, dgs, Int.add_zero]
    rfl
  | succ m ih =>
    intro gone pre row sum last s hm
    simp only [tq_b, cps]
    rw [fold_fm, List.range_eq_range', show ((n : Int)).toNat = n by omega]
    have e := sk_fd_rg (fun w s => if sk_and (sk_shr gone w) 1 = 1 then s else tq_b mt n m (sk_or gone (sk_shl 1 w)) (10 * row + w) (sum + (if last = -1 then 0 else mt last w)) w s) n 0 s
    rw [show (((0 : Nat) : Int)) = 0 from rfl] at e
    rw [e]
    refine fold_congr _ _ (fun s h hh => ?_)
    have hn : h < n := by have := List.mem_range'_1.mp hh; omega
    have hb := hm.2.2 h (by omega)
    by_cases q : h ∈ pre
    · rw [if_pos (hb.mpr q), if_pos q]
      rfl
    · rw [if_neg (fun z => q (hb.mp z)), if_neg q, fold_mp, ih _ (h :: pre) _ _ _ _ (mkg_s hm (by omega))]
      refine fold_congr _ _ (fun s p _ => ?_)
      have e1 : dgs row (h :: p) = dgs (10 * row + h) p := rfl
      have e2 : qs mt last (h :: p) = (if last = -1 then 0 else mt last h) + qs mt h p := rfl
      rw [e1, e2, Int.add_assoc]
def lsm (g : Nat → Int) : List Nat → Int
  | [] => 0
  | x :: r => g x + lsm g r
def os (ov : Int → Int → Int) : List Nat → List Nat → Int
  | _, [] => 0
  | pre, h :: r => lsm (fun x => ov x h) pre + os ov (h :: pre) r
def oup (s : Int × Int) (r x : Int) : Int × Int := if s.1 = -1 ∨ x < s.2 then (r, x) else s
theorem to_fold (ov : Int → Int → Int) (n : Nat) (n6 : n ≤ 6) : ∀ (m k : Nat) (gone : Int) (pre : List Nat) (row oth : Int) (s : to_S), mkg gone pre → (∀ h : Int, sk_sm (fun i => ov (s.1 i) h) 0 k = lsm (fun x => ov x h) pre) → (to_b ov n m k gone row oth s).2 = (cps n m pre).foldl (fun s p => oup s (dgs row p) (oth + os ov pre p)) s.2 ∧ ∀ i, 0 ≤ i → i < (k : Int) → (to_b ov n m k gone row oth s).1 i = s.1 i := by
  intro m
  induction m with
  | zero =>
    intro k gone pre row oth s _ _
    simp only [to_b, cps, List.foldl, os, dgs, Int.add_zero]
    refine ⟨?_, fun i _ _ => ?_⟩
    · unfold oup
      split <;> rfl
    · split <;> rfl
  | succ m ih =>
    intro k gone pre row oth s hm hs
    have key : ∀ (c h0 : Nat) (s' : to_S), h0 + c ≤ n → (∀ i, 0 ≤ i → i < (k : Int) → s'.1 i = s.1 i) → (sk_fd (fun h s => if sk_and (sk_shr gone h) 1 = 1 then s else to_b ov n m ((k : Int) + 1) (sk_or gone (sk_shl 1 h)) (10 * row + h) (oth + sk_sm (fun i => ov (s.1 i) h) 0 ((k : Int)).toNat) (sk_up s.1 k h, s.2)) h0 c s').2 = (List.range' h0 c).foldl (fun b h => (if h ∈ pre then [] else (cps n m (h :: pre)).map (fun p => h :: p)).foldl (fun s p => oup s (dgs row p) (oth + os ov pre p)) b) s'.2 ∧ ∀ i, 0 ≤ i → i < (k : Int) → (sk_fd (fun h s => if sk_and (sk_shr gone h) 1 = 1 then s else to_b ov n m ((k : Int) + 1) (sk_or gone (sk_shl 1 h)) (10 * row + h) (oth + sk_sm (fun i => ov (s.1 i) h) 0 ((k : Int)).toNat) (sk_up s.1 k h, s.2)) h0 c s').1 i = s.1 i := by
      intro c
      induction c with
      | zero => intro h0 s' _ ha; exact ⟨rfl, ha⟩
      | succ c ihc =>
        intro h0 s' hc ha
        simp only [sk_fd, List.range'_succ, List.foldl]
        rw [show ((h0 : Int) + 1) = ((h0 + 1 : Nat) : Int) by push_cast; rfl]
        have hb := hm.2.2 h0 (by omega)
        by_cases q : h0 ∈ pre
        · rw [if_pos (hb.mpr q), if_pos q]
          exact ihc (h0 + 1) s' (by omega) ha
        · rw [if_neg (fun z => q (hb.mp z)), if_neg q, fold_mp]
          have hs' : ∀ h : Int, sk_sm (fun i => ov (s'.1 i) h) 0 k = lsm (fun x => ov x h) pre := fun h => by
            rw [← hs h]
            exact sk_sm_congr _ _ (fun j a b => by (try simp only []); rw [ha j a (by omega)])
          have st := ih (k + 1) (sk_or gone (sk_shl 1 (h0 : Int))) (h0 :: pre) (10 * row + h0) (oth + sk_sm (fun i => ov (s'.1 i) h0) 0 ((k : Int)).toNat) (sk_up s'.1 k h0, s'.2) (mkg_s hm (by omega)) (fun h => by
            rw [sk_sm_add]
            (try simp only [sk_sm])
            rw [show (0 : Int) + (k : Int) = k by omega, sk_up_self, Int.add_zero]
            have : sk_sm (fun i => ov (sk_up s'.1 k h0 i) h) 0 k = sk_sm (fun i => ov (s'.1 i) h) 0 k := sk_sm_congr _ _ (fun j a b => by (try simp only []); rw [sk_up_ne _ _ (by omega)])
            rw [this, hs' h]
            show _ = ov h0 h + lsm _ pre
            omega)
          rw [show ((k + 1 : Nat) : Int) = (k : Int) + 1 by push_cast; rfl] at st
          have r := ihc (h0 + 1) (to_b ov n m ((k : Int) + 1) (sk_or gone (sk_shl 1 (h0 : Int))) (10 * row + h0) (oth + sk_sm (fun i => ov (s'.1 i) h0) 0 ((k : Int)).toNat) (sk_up s'.1 k h0, s'.2)) (by omega) (fun i a b => by rw [st.2 i a (by omega)]; (try simp only []); rw [sk_up_ne _ _ (by omega)]; exact ha i a b)
          refine ⟨?_, r.2⟩
          rw [r.1, st.1]
          congr 1
          refine fold_congr _ _ (fun s p _ => ?_)
          have e1 : dgs row (h0 :: p) = dgs (10 * row + h0) p := rfl
          have e2 : os ov pre (h0 :: p) = lsm (fun x => ov x h0) pre + os ov (h0 :: pre) p := rfl
          rw [e1, e2, show ((k : Int)).toNat = k by omega, hs' h0, Int.add_assoc]
    have r := key n 0 s (by omega) (fun i _ _ => rfl)
    rw [show (((0 : Nat) : Int)) = 0 from rfl] at r
    simp only [to_b, cps]
    rw [fold_fm, List.range_eq_range', show ((n : Int)).toNat = n by omega]
    exact r
/-! the class -/
def agr (r r' : Int → Int) (n : Int) : Prop := ∀ i, 0 ≤ i → i < n → r i = r' i
theorem rk_l_c {r r' : Int → Int} {n : Int} (h : agr r r' n) : ∀ k : Nat, (k : Int) < n → rk_l r k = rk_l r' k
  | 0, _ => rfl
  | k + 1, hk => by
    push_cast at hk
    simp only [rk_l]
    rw [h (k + 1) (by omega) (by omega), h k (by omega) (by omega), rk_l_c h k (by omega)]
theorem rk_r_c {r r' : Int → Int} {n l : Int} (h : agr r r' n) (l0 : 0 ≤ l) (l1 : l < n) : ∀ k : Nat, (k : Int) < n → rk_r r l k = rk_r r' l k
  | 0, _ => rfl
  | k + 1, hk => by
    push_cast at hk
    simp only [rk_r]
    rw [h _ (by omega) (by push_cast; omega), h l l0 l1, rk_r_c h l0 l1 k (by omega)]
theorem rk_sw_c {r r' : Int → Int} {n i j : Int} (h : agr r r' n) (i0 : 0 ≤ i) (i1 : i < n) (j0 : 0 ≤ j) (j1 : j < n) : agr (rk_sw r i j) (rk_sw r' i j) n := by
  intro x x0 x1
  unfold rk_sw sk_up
  rw [h i i0 i1, h j j0 j1, h x x0 x1]
theorem rk_v_c {n : Int} : ∀ (k : Nat) (i j : Int) (r r' : Int → Int), agr r r' n → 0 ≤ i → j < n → agr (rk_v k i j r) (rk_v k i j r') n
  | 0, _, _, _, _, h, _, _ => h
  | k + 1, i, j, r, r', h, i0, j1 => by
    simp only [rk_v]
    by_cases e : i < j
    · rw [if_pos e, if_pos e]
      exact rk_v_c k _ _ _ _ (rk_sw_c h i0 (by omega) (by omega) j1) (by omega) (by omega)
    · rw [if_neg e, if_neg e]; exact h
theorem rk_next_c {r r' : Int → Int} {n : Int} (n1 : 1 ≤ n) (h : agr r r' n) (h0 : 0 ≤ rk_l r (n - 1).toNat) : agr (rk_next r n) (rk_next r' n) n := by
  have e1 := rk_l_c h (n - 1).toNat (by omega)
  have a := rk_l_in r (n - 1).toNat
  have b := rk_r_in r (rk_l r (n - 1).toNat) (n - 1).toNat (by omega) h0
  have e2 := rk_r_c h h0 (by omega) (n - 1).toNat (by omega)
  unfold rk_next
  rw [← e1, ← e2]
  exact rk_v_c _ _ _ _ _ (rk_sw_c h h0 (by omega) (by omega) (by omega)) (by omega) (by omega)
theorem rk_dig_c {r r' : Int → Int} {n : Int} (h : agr r r' n) : rk_dig r n = rk_dig r' n := by
  unfold rk_dig
  exact sk_fd_congr _ _ _ (fun j s a b => by (try simp only []); rw [h j a (by omega)])
theorem rk_last_in {n i : Int} {nb : Bool} (h : i < n) : i + 1 ≤ rk_last n nb i ∧ rk_last n nb i ≤ n := by
  have := sk_min_in n (i + 2)
  cases nb <;> simp only [rk_last] <;> omega
theorem rk_sum_c {w r r' : Int → Int} {n : Int} {nb : Bool} (h : agr r r' n) : rk_sum w r n nb = rk_sum w r' n nb := by
  unfold rk_sum
  refine sk_sm_congr _ _ (fun i a b => ?_)
  have l := rk_last_in (n := n) (i := i) (nb := nb) (by omega)
  refine sk_sm_congr _ _ (fun j c d => ?_)
  (try simp only [])
  rw [h i a (by omega), h j (by omega) (by omega)]
theorem tl_lf {r : Int → Int} : ∀ (n i : Nat), (∀ j, (i : Int) ≤ j → j < i + n → 0 ≤ r j) → ∀ k : Nat, k < n → (tl r i n).getD k 0 = (r ((i + k : Nat) : Int)).toNat
  | 0, _, _, k, hk => by omega
  | n + 1, i, h, k, hk => by
    cases k with
    | zero => simp [tl]
    | succ k =>
      simp only [tl, List.getD_cons_succ]
      rw [tl_lf n (i + 1) (fun j a b => h j (by push_cast at a; omega) (by push_cast at b ⊢; omega)) k (by omega)]
      rw [show i + 1 + k = i + (k + 1) by omega]
theorem lf_tl {r : Int → Int} {n : Nat} (h : ∀ i, 0 ≤ i → i < (n : Int) → 0 ≤ r i) : agr (lf (tl r 0 n)) r n := by
  intro i i0 i1
  unfold lf
  rw [tl_lf n 0 (fun j a b => h j (by omega) (by omega)) i.toNat (by omega)]
  rw [show ((0 + i.toNat : Nat) : Int) = i by omega]
  have := h i i0 i1
  omega
def rup (w : Int → Int) (n : Int) (nb : Bool) (b : Int × Int) (p : List Nat) : Int × Int := if b.2 < rk_sum w (lf p) n nb then (rk_dig (lf p) n, rk_sum w (lf p) n nb) else b
theorem rk_fold (w : Int → Int) (nb : Bool) (n : Nat) (n1 : 1 ≤ n) (n6 : n ≤ 6) : ∀ (k : Nat) (l : List Nat) (r : Int → Int) (bR bS : Int), agr r (lf l) n → rk_ok r n → (rk_seek w n nb k (r, bR, bS)).2 = (nxs n k l).foldl (rup w n nb) (bR, bS) := by
  intro k
  induction k with
  | zero => intro l r bR bS _ _; rfl
  | succ k ih =>
    intro l r bR bS ha hok
    have el := rk_l_c ha (n - 1) (by omega)
    have en1 : ((n : Int) - 1).toNat = n - 1 := by omega
    simp only [rk_seek, nxs]
    rw [en1, el]
    by_cases q : rk_l (lf l) (n - 1) < 0
    · rw [if_pos q, if_pos q]; rfl
    · rw [if_neg q, if_neg q]
      have h0 : 0 ≤ rk_l r ((n : Int) - 1).toNat := by rw [en1, el]; omega
      have hok2 := rk_next_ok (n := n) (by omega) hok h0
      have nc := rk_next_c (n := n) (by omega) ha h0
      have h0' : ∀ i, 0 ≤ i → i < (n : Int) → 0 ≤ rk_next (lf l) n i := fun i a b => by rw [← nc i a b]; exact (hok2 i a b).1
      have lt := lf_tl h0'
      have ag : agr (rk_next r n) (lf (tl (rk_next (lf l) n) 0 n)) n := fun i a b => (nc i a b).trans (lt i a b).symm
      have es := rk_sum_c (w := w) (nb := nb) ag
      have ed := rk_dig_c ag
      simp only [List.foldl]
      have r9 := ih (tl (rk_next (lf l) n) 0 n) (rk_next r n) (if bS < rk_sum w (rk_next r n) n nb then rk_dig (rk_next r n) n else bR) (if bS < rk_sum w (rk_next r n) n nb then rk_sum w (rk_next r n) n nb else bS) ag hok2
      rw [r9]
      congr 1
      unfold rup
      (try simp only [])
      rw [← es, ← ed]
      by_cases z : bS < rk_sum w (rk_next r n) n nb
      · rw [if_pos z, if_pos z, if_pos z]
      · rw [if_neg z, if_neg z, if_neg z]
