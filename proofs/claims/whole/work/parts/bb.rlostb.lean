/-! ===== the least scraping: joined ===== -/
theorem a_hd_9 {t s : Int → Int} {leg x : Int} (g1 : 1 ≤ leg) : ∀ (n : Nat) (am ab : Int), am ≤ ab → 0 ≤ ab → (∀ k : Nat, k < n → 0 ≤ s k ∧ s k ≤ 9) → a_hd t s leg x n am ab ≤ ab + 9 * n
  | 0, am, ab, h, _, _ => by simp only [a_hd]; push_cast; omega
  | n + 1, am, ab, h, h0, hs => by
    have k := hs n (by omega)
    simp only [a_hd]
    have r := a_hd_9 (t := t) (s := s) (x := x) g1 n (if leg ≤ s n ∧ t n = x then ab + s n - leg + 1 else am) (ab + s n) (by split <;> omega) (by omega) (fun k hk => hs k (by omega))
    push_cast
    omega
section RLOSTB
variable {sg ln pl ss lg : Int → Int} {size lines longest spot : Int} {S : Nat → Int} {Y : Nat → Int → Int} {R ly hs r0 m0 ag : Int → Int} {w hands : Int}
theorem ls_cnt {W leg : Int} (f : Int → Int → Int) : ∀ (n : Nat) (i : Int) (s : (Int → Int) × (Int → Int) × Int), 0 ≤ s.2.2 → s.2.2 ≤ (sk_fd (x_ls W leg sg ln pl spot ly hs) i n s).2.2 ∧ (sk_fd (x_ls W leg sg ln pl spot ly hs) i n s).2.2 ≤ s.2.2 + n ∧ sk_sm (fun k => f ((sk_fd (x_ls W leg sg ln pl spot ly hs) i n s).1 k) ((sk_fd (x_ls W leg sg ln pl spot ly hs) i n s).2.1 k)) 0 (sk_fd (x_ls W leg sg ln pl spot ly hs) i n s).2.2.toNat = sk_sm (fun k => f (s.1 k) (s.2.1 k)) 0 s.2.2.toNat + sk_sm (fun k => if 0 < x_am1 W leg sg ln pl spot ly hs k then f (xw W ln pl spot k / W) (x_am1 W leg sg ln pl spot ly hs k) else 0) i n
  | 0, i, s, s0 => by simp only [sk_fd, sk_sm]; exact ⟨by omega, by push_cast; omega, by omega⟩
  | n + 1, i, s, s0 => by
    simp only [sk_fd, sk_sm]
    by_cases z : 0 < x_am1 W leg sg ln pl spot ly hs i
    · have e : x_ls W leg sg ln pl spot ly hs i s = (sk_up s.1 s.2.2 (xw W ln pl spot i / W), sk_up s.2.1 s.2.2 (x_am1 W leg sg ln pl spot ly hs i), s.2.2 + 1) := by unfold x_ls; rw [if_pos z]
      obtain ⟨k1, k2, k3⟩ := ls_cnt (W := W) (leg := leg) f n (i + 1) (x_ls W leg sg ln pl spot ly hs i s) (by rw [e]; (try simp only []); omega)
      rw [e] at k1 k2 k3 ⊢
      (try simp only [] at k1 k2 k3)
      refine ⟨by omega, by push_cast; omega, ?_⟩
      rw [k3, if_pos z, show (s.2.2 + 1).toNat = s.2.2.toNat + 1 by omega, sk_sm_add]
      have e1 : sk_sm (fun k => f (sk_up s.1 s.2.2 (xw W ln pl spot i / W) k) (sk_up s.2.1 s.2.2 (x_am1 W leg sg ln pl spot ly hs i) k)) 0 s.2.2.toNat = sk_sm (fun k => f (s.1 k) (s.2.1 k)) 0 s.2.2.toNat := sk_sm_congr _ _ (fun k a b => by (try simp only []); rw [sk_up_ne _ _ (by omega), sk_up_ne _ _ (by omega)])
      rw [e1]
      simp only [sk_sm]
      rw [show (0 : Int) + (s.2.2.toNat : Int) = s.2.2 by omega, sk_up_self, sk_up_self]
      omega
    · have e : x_ls W leg sg ln pl spot ly hs i s = s := by unfold x_ls; rw [if_neg z]
      obtain ⟨k1, k2, k3⟩ := ls_cnt (W := W) (leg := leg) f n (i + 1) (x_ls W leg sg ln pl spot ly hs i s) (by rw [e]; exact s0)
      rw [e] at k1 k2 k3 ⊢
      refine ⟨by omega, by push_cast; omega, ?_⟩
      rw [k3, if_neg z]
      omega
theorem ls_all {W leg : Int} (P : Int → Int → Prop) : ∀ (n : Nat) (i : Int) (s : (Int → Int) × (Int → Int) × Int), 0 ≤ s.2.2 → (∀ k, 0 ≤ k → k < s.2.2 → P (s.1 k) (s.2.1 k)) → (∀ k, i ≤ k → k < i + n → 0 < x_am1 W leg sg ln pl spot ly hs k → P (xw W ln pl spot k / W) (x_am1 W leg sg ln pl spot ly hs k)) → ∀ k, 0 ≤ k → k < (sk_fd (x_ls W leg sg ln pl spot ly hs) i n s).2.2 → P ((sk_fd (x_ls W leg sg ln pl spot ly hs) i n s).1 k) ((sk_fd (x_ls W leg sg ln pl spot ly hs) i n s).2.1 k)
  | 0, i, s, s0, h1, h2 => h1
  | n + 1, i, s, s0, h1, h2 => by
    simp only [sk_fd]
    by_cases z : 0 < x_am1 W leg sg ln pl spot ly hs i
    · have e : x_ls W leg sg ln pl spot ly hs i s = (sk_up s.1 s.2.2 (xw W ln pl spot i / W), sk_up s.2.1 s.2.2 (x_am1 W leg sg ln pl spot ly hs i), s.2.2 + 1) := by unfold x_ls; rw [if_pos z]
      refine ls_all (W := W) (leg := leg) P n (i + 1) _ (by rw [e]; (try simp only []); omega) (fun k a b => ?_) (fun k a b c => h2 k (by omega) (by push_cast; omega) c)
      rw [e] at b ⊢
      (try simp only [] at b ⊢)
      by_cases y : k = s.2.2
      · rw [y, sk_up_self, sk_up_self]; exact h2 i (by omega) (by push_cast; omega) z
      · rw [sk_up_ne _ _ y, sk_up_ne _ _ y]; exact h1 k a (by omega)
    · have e : x_ls W leg sg ln pl spot ly hs i s = s := by unfold x_ls; rw [if_neg z]
      rw [e]
      exact ls_all (W := W) (leg := leg) P n (i + 1) s s0 h1 (fun k a b c => h2 k (by omega) (by push_cast; omega) c)
theorem sm_nn {f : Int → Int} (h : ∀ k, 0 ≤ f k) : ∀ (n : Nat) (i : Int), 0 ≤ sk_sm f i n
  | 0, _ => by simp [sk_sm]
  | n + 1, i => by simp only [sk_sm]; have := sm_nn h n (i + 1); have := h i; omega
theorem sm_swap (f : Int → Int → Int) (n : Nat) : ∀ (m : Nat) (i : Int), sk_sm (fun a => sk_sm (fun b => f a b) 0 n) i m = sk_sm (fun b => sk_sm (fun a => f a b) i m) 0 n
  | 0, i => by simp only [sk_sm]; exact (sk_sm_zero n 0 (fun _ _ _ => rfl)).symm
  | m + 1, i => by
    simp only [sk_sm]
    rw [sm_swap f n m (i + 1)]
    have : ∀ (g h : Int → Int) (n : Nat) (j : Int), sk_sm g j n + sk_sm h j n = sk_sm (fun b => g b + h b) j n := by
      intro g h n
      induction n with
      | zero => intro j; simp [sk_sm]
      | succ n ih => intro j; simp only [sk_sm]; have := ih (j + 1); omega
    exact this _ _ n 0
theorem sm_add (g h : Int → Int) : ∀ (n : Nat) (j : Int), sk_sm g j n + sk_sm h j n = sk_sm (fun b => g b + h b) j n
  | 0, j => by simp [sk_sm]
  | n + 1, j => by simp only [sk_sm]; have := sm_add g h n (j + 1); omega
theorem sm_hit {r9 : Int} : ∀ (n : Nat) (i : Int), i ≤ r9 → r9 < i + n → sk_sm (fun row => if r9 = row then (1 : Int) else 0) i n = 1
  | 0, i, a, b => by push_cast at b; omega
  | n + 1, i, a, b => by
    simp only [sk_sm]
    by_cases e : r9 = i
    · rw [if_pos e, sk_sm_zero n (i + 1) (fun j c d => by (try simp only []); rw [if_neg (by omega)])]; rfl
    · rw [if_neg e, sm_hit n (i + 1) (by omega) (by push_cast at b; omega)]; rfl
theorem lost_eq {v val : Int} (hr : wrel Y w sg ln pl lg size lines) (hg : wg sg ln pl ss lg size lines longest) (h0 : Y 13 0 = R 0) (h1 : Y 13 1 = R 1) (h2 : Y 13 2 = R 2) (hru : ru_ok (R 0) (R 1)) (g1 : 1 ≤ R 2) (hd : rd_does (R 0) (R 1) lines longest spot = true) (hp : pr (R 0 * R 1) hands ly hs (Y 18)) (hag : ag_ok Y w spot ag (Y 13 1)) (v1 : 1 ≤ v) (v16 : v ≤ 16) (hx : x_lst (sk_fd (x_ls (R 0) (R 2) sg ln pl spot ly hs) 0 size.toNat (r0, m0, 0)).1 (sk_fd (x_ls (R 0) (R 2) sg ln pl spot ly hs) 0 size.toNat (r0, m0, 0)).2.1 (sk_fd (x_ls (R 0) (R 2) sg ln pl spot ly hs) 0 size.toNat (r0, m0, 0)).2.2 ((sk_fd (x_ls (R 0) (R 2) sg ln pl spot ly hs) 0 size.toNat (r0, m0, 0)).2.2 - v + 1) val) : val = mo_lost S Y w spot v ag := by
  have hW := rd_does_W hru hd
  have cl := ru_cells hru
  obtain ⟨-, -, -, -, -, z1, z16⟩ := id hg
  have cin : ∀ k, 0 ≤ k → k < size → 0 ≤ xw (R 0) ln pl spot k ∧ xw (R 0) ln pl spot k < R 0 * R 1 := fun k a b => by
    obtain ⟨-, -, b1, b2, b3, b4⟩ := hg.1 k a b
    have c := rd_cell_in hW.1 hW.2.1 hd b1 b2 b3 b4
    exact ⟨c.1, c.2.1⟩
  have amb : ∀ k, 0 ≤ k → k < size → x_am1 (R 0) (R 2) sg ln pl spot ly hs k < 55 := fun k a b => by
    unfold x_am1
    split
    · omega
    · obtain ⟨c0, c1⟩ := cin k a b
      obtain ⟨p1, p2, p3, p4⟩ := hp.1 _ c0 (by omega)
      have := a_hd_9 (t := a_t6 ly (xw (R 0) ln pl spot k)) (s := a_s6 ly (xw (R 0) ln pl spot k)) (x := sg k) g1 (hs (xw (R 0) ln pl spot k)).toNat 0 0 (by omega) (by omega) (fun q hq => by have := (p4 q (by omega) (by omega)).2.2.2.2.2; omega)
      unfold x_hl a_hold
      omega
  obtain ⟨s, hs9⟩ : ∃ s, s = sk_fd (x_ls (R 0) (R 2) sg ln pl spot ly hs) 0 size.toNat (r0, m0, 0) := ⟨_, rfl⟩
  have cnt := fun f => ls_cnt (sg := sg) (ln := ln) (pl := pl) (spot := spot) (ly := ly) (hs := hs) (W := R 0) (leg := R 2) f size.toNat 0 (r0, m0, 0) (by simp)
  have all := ls_all (sg := sg) (ln := ln) (pl := pl) (spot := spot) (ly := ly) (hs := hs) (W := R 0) (leg := R 2) (fun r m => (0 ≤ r ∧ r < R 1) ∧ 1 ≤ m ∧ m < 55) size.toNat 0 (r0, m0, 0) (by simp) (fun k a b => by (try simp only [] at b); omega) (fun k a b c => by
    obtain ⟨c0, c1⟩ := cin k a (by omega)
    refine ⟨⟨Int.ediv_nonneg c0 (by omega), Int.ediv_lt_of_lt_mul (by omega) (by rw [Int.mul_comm]; exact c1)⟩, by omega, amb k a (by omega)⟩)
  rw [← hs9] at hx all
  rw [← hs9] at cnt
  have sz0 : 0 ≤ s.2.2 ∧ s.2.2 ≤ 16 := by have := cnt (fun _ _ => 0); (try simp only [] at this); omega
  -- agreeing letters behind n scrapings
  have agq : ∀ row n, 0 ≤ row → row < R 1 → 0 ≤ n → n < 55 → ag (55 * row + n) = sk_sm (fun k => if s.1 k = row ∧ n < s.2.1 k then 1 else 0) 0 s.2.2.toNat := by
    intro row n r0' r1' n0 n1
    obtain ⟨f0, f1, f2, -⟩ := ru_first hru r0' r1'
    have e := hag row r0' (by rw [h1]; exact r1') n.toNat (by omega)
    rw [show ((n.toNat : Nat) : Int) = n by omega] at e
    have c := (cnt (fun r m => if r = row ∧ n < m then 1 else 0)).2.2
    (try simp only [] at c)
    rw [e, c]
    rw [show sk_sm (fun k => if r0 k = row ∧ n < m0 k then (1 : Int) else 0) 0 ((0 : Int)).toNat = 0 from rfl, Int.zero_add]
    unfold mo_ag
    rw [hr.1]
    refine sk_sm_congr _ _ (fun k a b => ?_)
    have kb : k < size := by omega
    obtain ⟨e1, -, -⟩ := hr.2.1 k a kb
    obtain ⟨c0, c1⟩ := cin k a kb
    (try simp only [])
    rw [at_eq hr hg h0 h1 hW.1 hW.2.1 hd a kb, e1, h0, h2]
    by_cases y : sg k = 26
    · rw [if_neg (fun q => q.1 y)]
      have : x_am1 (R 0) (R 2) sg ln pl spot ly hs k = 0 := by unfold x_am1; rw [if_pos y]
      rw [this, if_neg (by omega)]
    · have ea : x_am1 (R 0) (R 2) sg ln pl spot ly hs k = x_hl ly hs (R 2) (sg k) (xw (R 0) ln pl spot k) := by unfold x_am1; rw [if_neg y]
      rw [ea]
      by_cases q : xw (R 0) ln pl spot k / R 0 = row
      · have cr : row * R 0 ≤ xw (R 0) ln pl spot k ∧ xw (R 0) ln pl spot k < row * R 0 + R 0 := by
          have e5 := Int.emod_add_mul_ediv (xw (R 0) ln pl spot k) (R 0)
          have e6 := Int.emod_nonneg (xw (R 0) ln pl spot k) (show R 0 ≠ 0 by omega)
          have e7 := Int.emod_lt_of_pos (xw (R 0) ln pl spot k) (show 0 < R 0 by omega)
          rw [q, Int.mul_comm] at e5
          omega
        have vg := ver_gn (x := sg k) hp g1 f0 f1 cr.1 cr.2 n.toNat
        rw [show ((n.toNat : Nat) : Int) = n by omega] at vg
        by_cases u : n < x_hl ly hs (R 2) (sg k) (xw (R 0) ln pl spot k)
        · rw [if_pos ⟨y, q, vg.mpr u⟩, if_pos (by omega), if_pos ⟨q, u⟩]
        · rw [if_neg (fun t => u (vg.mp t.2.2))]
          split
          · rw [if_neg (fun t => u t.2)]
          · rfl
      · rw [if_neg (fun t => q t.2.1)]
        split
        · rw [if_neg (fun t => q t.1)]
        · rfl
  have hag2 : ∀ r n, 0 ≤ r → r < ((R 1).toNat : Int) → 0 ≤ n → n < 55 → 0 ≤ ag (55 * r + n) ∧ ag (55 * r + n) ≤ 16 := fun r n a b c d => by
    rw [agq r n a (by omega) c d]
    have := sk_sm_le (f := fun k => if s.1 k = r ∧ n < s.2.1 k then 1 else 0) (a := 0) (b := 1) s.2.2.toNat 0 (fun j _ _ => by split <;> omega)
    omega
  -- together they are all
  have tot : ∀ n : Int → Int, (∀ r, 0 ≤ r → r < 5 → 0 ≤ n r ∧ n r < 55) → sk_sm (fun r => ag (55 * r + n r)) 0 (R 1).toNat + sk_sm (fun q => Lc s.1 s.2.1 s.2.2 q (n q)) 0 (R 1).toNat = s.2.2 := by
    intro n hn
    have e1 : sk_sm (fun r => ag (55 * r + n r)) 0 (R 1).toNat = sk_sm (fun r => sk_sm (fun k => if s.1 k = r ∧ n r < s.2.1 k then 1 else 0) 0 s.2.2.toNat) 0 (R 1).toNat := sk_sm_congr _ _ (fun r a b => agq r (n r) a (by omega) (hn r a (by omega)).1 (hn r a (by omega)).2)
    rw [e1, sm_add]
    have e2 : sk_sm (fun r => sk_sm (fun k => if s.1 k = r ∧ n r < s.2.1 k then 1 else 0) 0 s.2.2.toNat + Lc s.1 s.2.1 s.2.2 r (n r)) 0 (R 1).toNat = sk_sm (fun r => sk_sm (fun k => if s.1 k = r then (1 : Int) else 0) 0 s.2.2.toNat) 0 (R 1).toNat := sk_sm_congr _ _ (fun r a b => by
      (try simp only [])
      unfold Lc
      rw [sm_add]
      refine sk_sm_congr _ _ (fun k c d => ?_)
      (try simp only [])
      by_cases q : s.1 k = r
      · rw [if_pos q]
        by_cases u : n r < s.2.1 k
        · rw [if_pos ⟨q, u⟩, if_neg (by omega)]; rfl
        · rw [if_neg (fun t => u t.2), if_pos ⟨q, by omega⟩]; rfl
      · rw [if_neg q, if_neg (fun t => q t.1), if_neg (fun t => q t.1)]; rfl)
    rw [e2, sm_swap]
    have e3 : sk_sm (fun b => sk_sm (fun a => if s.1 b = a then (1 : Int) else 0) 0 (R 1).toNat) 0 s.2.2.toNat = sk_sm (fun _ => (1 : Int)) 0 s.2.2.toNat := sk_sm_congr _ _ (fun k a b => by
      have := (all k a (by omega)).1
      exact sm_hit _ _ this.1 (by omega))
    rw [e3]
    have e4 : ∀ (n : Nat) (i : Int), sk_sm (fun _ => (1 : Int)) i n = n := by
      intro n
      induction n with
      | zero => intro i; rfl
      | succ n ih => intro i; simp only [sk_sm]; rw [ih]; push_cast; omega
    rw [e4]
    omega
  have lz : ∀ q t, R 1 ≤ q → Lc s.1 s.2.1 s.2.2 q t = 0 := fun q t hq => by
    unfold Lc
    exact sk_sm_zero _ _ (fun k a b => by (try simp only []); have := (all k a (by omega)).1; rw [if_neg (by omega)])
  have l5 : ∀ n : Int → Int, sk_sm (fun q => Lc s.1 s.2.1 s.2.2 q (n q)) 0 5 = sk_sm (fun q => Lc s.1 s.2.1 s.2.2 q (n q)) 0 (R 1).toNat := fun n => by
    have := sk_sm_cut (f := fun q => Lc s.1 s.2.1 s.2.2 q (n q)) (c := R 1) (n := 5) (by omega) (by omega) (fun j a b => lz j (n j) a)
    exact this
  obtain ⟨d1, d2⟩ := ref_dp (l := Y 24) (s := Y 25) (ag := ag) hag2 (R 1).toNat (by omega)
  obtain ⟨G, hG⟩ : ∃ G, G = (sk_fd (ml_row ag) 0 (R 1).toNat (ml_l0 (Y 24), Y 25)).1 := ⟨_, rfl⟩
  rw [← hG] at d1 d2
  have eml : mo_lost S Y w spot v ag = sk_fd (fun k f => sk_min f (G k)) 0 v.toNat 1000000 := by unfold mo_lost ml_fin ml_all; rw [h1, hG]
  obtain ⟨m1, m2, m3⟩ := ml_fin_at G v.toNat 0 1000000
  rw [← eml] at m1 m2 m3
  have snn : ∀ n : Int → Int, (∀ r, 0 ≤ r → r < 5 → 0 ≤ n r ∧ n r < 55) → 0 ≤ sk_sm n 0 (R 1).toNat ∧ sk_sm n 0 (R 1).toNat ≤ sk_sm n 0 5 := fun n hn => by
    have a := sk_sm_le (f := n) (a := 0) (b := 54) (R 1).toNat 0 (fun j a b => by have := hn j a (by omega); omega)
    have e : sk_sm n 0 5 = sk_sm n 0 (R 1).toNat + sk_sm n (0 + ((R 1).toNat : Int)) (5 - (R 1).toNat) := by rw [← sk_sm_add, show (R 1).toNat + (5 - (R 1).toNat) = 5 by omega]
    have b := sk_sm_le (f := n) (a := 0) (b := 54) (5 - (R 1).toNat) (0 + ((R 1).toNat : Int)) (fun j a b => by have := hn j (by omega) (by omega); omega)
    omega
  have agnn : ∀ n : Int → Int, (∀ r, 0 ≤ r → r < 5 → 0 ≤ n r ∧ n r < 55) → 0 ≤ sk_sm (fun r => ag (55 * r + n r)) 0 (R 1).toNat := fun n hn => by
    have := sk_sm_le (f := fun r => ag (55 * r + n r)) (a := 0) (b := 16) (R 1).toNat 0 (fun j a b => hag2 j (n j) a (by omega) (hn j a (by omega)).1 (hn j a (by omega)).2)
    omega
  -- the reference is no more than any choice that leaves fewer than v
  have up : ∀ n : Int → Int, (∀ r, 0 ≤ r → r < 5 → 0 ≤ n r ∧ n r < 55) → s.2.2 - v + 1 ≤ sk_sm (fun q => Lc s.1 s.2.1 s.2.2 q (n q)) 0 (R 1).toNat → mo_lost S Y w spot v ag ≤ sk_sm n 0 (R 1).toNat := fun n hn hl => by
    have t := tot n hn
    have a := agnn n hn
    have g := d1 n (fun r x y => hn r x (by omega)) (by omega)
    have g2 := m2 _ a (by omega)
    omega
  have dn : mo_lost S Y w spot v ag < 1000000 → ∃ n : Int → Int, (∀ r, 0 ≤ r → r < 5 → 0 ≤ n r ∧ n r < 55) ∧ s.2.2 - v + 1 ≤ sk_sm (fun q => Lc s.1 s.2.1 s.2.2 q (n q)) 0 (R 1).toNat ∧ sk_sm n 0 (R 1).toNat = mo_lost S Y w spot v ag := fun h => by
    rcases m3 with q | ⟨k, k0, k1, k2⟩
    · omega
    · obtain ⟨f, f1, f2, f3⟩ := (d2 k k0 (by omega)).2 (by omega)
      have t := tot f f1
      exact ⟨f, f1, by omega, by omega⟩
  unfold x_lst at hx
  by_cases q : s.2.2 - v + 1 ≤ 0
  · rw [if_pos q] at hx
    have hz : ∀ r : Int, 0 ≤ r → r < 5 → 0 ≤ (fun _ => (0 : Int)) r ∧ (fun _ => (0 : Int)) r < 55 := fun _ _ _ => ⟨by simp, by simp⟩
    have u := up (fun _ => 0) hz (by
      have := sm_nn (f := fun q => Lc s.1 s.2.1 s.2.2 q 0) (fun k => Lc_in 0) (R 1).toNat 0
      (try simp only [])
      omega)
    have z : sk_sm (fun _ => (0 : Int)) 0 (R 1).toNat = 0 := sk_sm_zero _ _ (fun _ _ _ => rfl)
    rw [z] at u
    obtain ⟨n, n1, n2, n3⟩ := dn (by omega)
    have := (snn n n1).1
    omega
  · rw [if_neg q, if_neg (by omega)] at hx
    obtain ⟨b', l0, hb, hl0, hv⟩ := hx
    obtain ⟨c1, c2⟩ := cls_dp (r := s.1) (m := s.2.1) (b := b') (size := s.2.2) (W := (s.2.2 - v + 1).toNat) (l0 := l0) sz0.1 (fun k a b => (all k a b).2) hb (by omega) hl0 5
    have eW : (((s.2.2 - v + 1).toNat : Nat) : Int) = s.2.2 - v + 1 := by omega
    have hbig : ∀ r : Int, 0 ≤ r → r < 5 → 0 ≤ (fun _ => (54 : Int)) r ∧ (fun _ => (54 : Int)) r < 55 := fun _ _ _ => ⟨by simp, by simp⟩
    have eall : sk_sm (fun q => Lc s.1 s.2.1 s.2.2 q 54) 0 (R 1).toNat = s.2.2 := by
      have t := tot (fun _ => 54) hbig
      have za : sk_sm (fun r => ag (55 * r + 54)) 0 (R 1).toNat = 0 := sk_sm_zero _ _ (fun r a b => by
        rw [agq r 54 a (by omega) (by omega) (by omega)]
        exact sk_sm_zero _ _ (fun k c d => by (try simp only []); have := (all k c (by omega)).2; rw [if_neg (by omega)]))
      (try simp only [] at t)
      omega
    have e54 : ∀ (n : Nat) (i : Int), sk_sm (fun _ => (54 : Int)) i n = 54 * n := by
      intro n
      induction n with
      | zero => intro i; rfl
      | succ n ih => intro i; simp only [sk_sm]; rw [ih]; push_cast; omega
    have k1 := c1 (fun _ => 54) (s.2.2 - v + 1) (fun _ _ _ => by simp) (by omega) (by omega) (by rw [l5 (fun _ => 54)]; omega)
    rw [e54] at k1
    rw [hv]
    obtain ⟨-, k3⟩ := c2 (s.2.2 - v + 1) (by omega) (by omega)
    obtain ⟨n, n1, n2, n3⟩ := k3 (by push_cast at k1; omega)
    have u := up n n1 (by rw [← l5 n]; exact n2)
    have sn := snn n n1
    obtain ⟨n', m1', m2', m3'⟩ := dn (by push_cast at k1; omega)
    have k4 := c1 (fun q => if q < R 1 then n' q else 0) (s.2.2 - v + 1) (fun q a b => by (try simp only []); split; exact (m1' q a (by omega)).1; omega) (by omega) (by omega) (by
      rw [l5 (fun q => if q < R 1 then n' q else 0)]
      have : sk_sm (fun q => Lc s.1 s.2.1 s.2.2 q (if q < R 1 then n' q else 0)) 0 (R 1).toNat = sk_sm (fun q => Lc s.1 s.2.1 s.2.2 q (n' q)) 0 (R 1).toNat := sk_sm_congr _ _ (fun q a b => by (try simp only []); rw [if_pos (by omega)])
      rw [this]; exact m2')
    have e6 : sk_sm (fun q => if q < R 1 then n' q else 0) 0 5 = sk_sm n' 0 (R 1).toNat := by
      have := sk_sm_cut (f := fun q => if q < R 1 then n' q else 0) (c := R 1) (n := 5) (by omega) (by omega) (fun j a b => by (try simp only []); rw [if_neg (by omega)])
      rw [show ((5 : Int)).toNat = 5 from rfl] at this
      rw [this]
      exact sk_sm_congr _ _ (fun q a b => by (try simp only []); rw [if_pos (by omega)])
    rw [e6] at k4
    omega
end RLOSTB
