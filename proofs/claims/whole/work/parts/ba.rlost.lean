/-! ===== the least scraping: equal on both sides ===== -/
theorem fd_pt (g : Int → Int → Int) : ∀ (n : Nat) (i : Int) (s : Int → Int) (j : Int), sk_fd (fun k s => sk_up s k (g k (s k))) i n s j = if i ≤ j ∧ j < i + n then g j (s j) else s j
  | 0, i, s, j => by simp only [sk_fd]; rw [if_neg (by push_cast; omega)]
  | n + 1, i, s, j => by
    simp only [sk_fd]
    rw [fd_pt g n (i + 1)]
    push_cast
    by_cases e : j = i
    · subst e; rw [if_neg (by omega), if_pos (by omega), sk_up_self]
    · by_cases z : i + 1 ≤ j ∧ j < i + 1 + n
      · rw [if_pos z, if_pos (by omega), sk_up_ne _ _ e]
      · rw [if_neg z, if_neg (by omega), sk_up_ne _ _ e]
section RREF
variable {ag least : Int → Int} {row : Int}
theorem ml_in_at {n a : Int} {s : Int → Int} {k : Int} (a0 : 0 ≤ a) (a1 : a ≤ 16) (k1 : k ≤ 16) : ml_in least n a s k = if a ≤ k then sk_min (s k) (least (k - a) + n) else s k := by
  unfold ml_in
  rw [fd_pt (fun k v => sk_min v (least (k - a) + n))]
  by_cases e : a ≤ k
  · rw [if_pos (by omega), if_pos e]
  · rw [if_neg (by omega), if_neg e]
theorem ml_n {k : Int} (k1 : k ≤ 16) (hag : ∀ n, 0 ≤ n → n < 55 → 0 ≤ ag (55 * row + n) ∧ ag (55 * row + n) ≤ 16) : ∀ (m : Nat) (i : Int) (s : Int → Int), 0 ≤ i → i + m ≤ 55 → sk_fd (fun n s => ml_in least n (ag (55 * row + n)) s) i m s k ≤ s k ∧ (∀ n, i ≤ n → n < i + m → ag (55 * row + n) ≤ k → sk_fd (fun n s => ml_in least n (ag (55 * row + n)) s) i m s k ≤ least (k - ag (55 * row + n)) + n) ∧ (sk_fd (fun n s => ml_in least n (ag (55 * row + n)) s) i m s k = s k ∨ ∃ n, i ≤ n ∧ n < i + m ∧ ag (55 * row + n) ≤ k ∧ sk_fd (fun n s => ml_in least n (ag (55 * row + n)) s) i m s k = least (k - ag (55 * row + n)) + n)
  | 0, i, s, _, _ => by
    simp only [sk_fd]
    exact ⟨by omega, fun n a b => by push_cast at b; omega, by first | exact Or.inl rfl | exact Or.inl trivial⟩
  | m + 1, i, s, i0, i1 => by
    push_cast at i1
    simp only [sk_fd]
    have h := hag i i0 (by omega)
    obtain ⟨r1, r2, r3⟩ := ml_n k1 hag m (i + 1) (ml_in least i (ag (55 * row + i)) s) (by omega) (by omega)
    have e := ml_in_at (least := least) (n := i) (s := s) h.1 h.2 k1
    have eb : ml_in least i (ag (55 * row + i)) s k ≤ s k ∧ (ag (55 * row + i) ≤ k → ml_in least i (ag (55 * row + i)) s k ≤ least (k - ag (55 * row + i)) + i) ∧ (ml_in least i (ag (55 * row + i)) s k = s k ∨ (ag (55 * row + i) ≤ k ∧ ml_in least i (ag (55 * row + i)) s k = least (k - ag (55 * row + i)) + i)) := by
      rw [e]
      by_cases z : ag (55 * row + i) ≤ k
      · rw [if_pos z]
        have := sk_min_in (s k) (least (k - ag (55 * row + i)) + i)
        exact ⟨this.1, fun _ => this.2.1, this.2.2.elim Or.inl (fun q => Or.inr ⟨z, q⟩)⟩
      · rw [if_neg z]
        exact ⟨by omega, fun q => absurd q z, Or.inl rfl⟩
    refine ⟨by omega, fun n a b c => ?_, ?_⟩
    · by_cases z : n = i
      · subst z; have := eb.2.1 c; omega
      · exact r2 n (by omega) (by push_cast at b; omega) c
    · rcases r3 with r3 | ⟨n, a, b, c, d⟩
      · rcases eb.2.2 with q | ⟨q1, q2⟩
        · exact Or.inl (r3.trans q)
        · exact Or.inr ⟨i, by omega, by push_cast; omega, q1, r3.trans q2⟩
      · exact Or.inr ⟨n, by omega, by push_cast; omega, c, d⟩
theorem ml_s1_at {s : Int → Int} {k : Int} (k0 : 0 ≤ k) (k1 : k ≤ 16) (hag : ∀ n, 0 ≤ n → n < 55 → 0 ≤ ag (55 * row + n) ∧ ag (55 * row + n) ≤ 16) : ml_s1 ag row least s k ≤ 1000000 ∧ (∀ n, 0 ≤ n → n < 55 → ag (55 * row + n) ≤ k → ml_s1 ag row least s k ≤ least (k - ag (55 * row + n)) + n) ∧ (ml_s1 ag row least s k = 1000000 ∨ ∃ n, 0 ≤ n ∧ n < 55 ∧ ag (55 * row + n) ≤ k ∧ ml_s1 ag row least s k = least (k - ag (55 * row + n)) + n) := by
  have e0 : ml_s0 s k = 1000000 := by unfold ml_s0; rw [fd_pt (fun _ _ => 1000000), if_pos (by omega)]
  obtain ⟨r1, r2, r3⟩ := ml_n (least := least) (ag := ag) (row := row) k1 hag 55 0 (ml_s0 s) (by omega) (by omega)
  rw [e0] at r1 r3
  unfold ml_s1
  exact ⟨r1, fun n a b c => r2 n a (by omega) c, r3.elim Or.inl (fun ⟨n, a, b, c, d⟩ => Or.inr ⟨n, a, by omega, c, d⟩)⟩
theorem ml_row_at {p : (Int → Int) × (Int → Int)} {k : Int} (k0 : 0 ≤ k) (k1 : k ≤ 16) : (ml_row ag row p).1 k = ml_s1 ag row p.1 p.2 k := by
  unfold ml_row
  (try simp only [])
  rw [fd_pt (fun k _ => ml_s1 ag row p.1 p.2 k), if_pos (by omega)]
/-- sums over the first rows -/
theorem ref_dp {l s : Int → Int} {J : Nat} (hag : ∀ r n, 0 ≤ r → r < (J : Int) → 0 ≤ n → n < 55 → 0 ≤ ag (55 * r + n) ∧ ag (55 * r + n) ≤ 16) : ∀ j : Nat, j ≤ J → (∀ n : Int → Int, (∀ r : Int, 0 ≤ r → r < (j : Int) → 0 ≤ n r ∧ n r < 55) → sk_sm (fun r => ag (55 * r + n r)) 0 j ≤ 16 → (sk_fd (ml_row ag) 0 j (ml_l0 l, s)).1 (sk_sm (fun r => ag (55 * r + n r)) 0 j) ≤ sk_sm n 0 j) ∧ ∀ k, 0 ≤ k → k ≤ 16 → (sk_fd (ml_row ag) 0 j (ml_l0 l, s)).1 k ≤ 1000000 ∧ ((sk_fd (ml_row ag) 0 j (ml_l0 l, s)).1 k < 1000000 → ∃ n : Int → Int, (∀ r, 0 ≤ r → r < 5 → 0 ≤ n r ∧ n r < 55) ∧ sk_sm (fun r => ag (55 * r + n r)) 0 j = k ∧ sk_sm n 0 j = (sk_fd (ml_row ag) 0 j (ml_l0 l, s)).1 k)
  | 0, _ => by
    have e0 : ∀ k, 0 ≤ k → k ≤ 16 → ml_l0 l k = if k = 0 then 0 else 1000000 := fun k a b => by unfold ml_l0; rw [fd_pt (fun k _ => if k = 0 then 0 else 1000000), if_pos (by omega)]
    simp only [sk_fd, sk_sm]
    refine ⟨fun n _ _ => by rw [e0 0 (by omega) (by omega)]; simp, fun k a b => ?_⟩
    rw [e0 k a b]
    by_cases z : k = 0
    · rw [if_pos z]
      exact ⟨by omega, fun _ => ⟨fun _ => 0, fun _ _ _ => ⟨by simp, by simp⟩, z.symm, rfl⟩⟩
    · rw [if_neg z]
      exact ⟨by omega, fun h => by omega⟩
  | j + 1, hj => by
    obtain ⟨i1, i2⟩ := ref_dp (l := l) (s := s) hag j (by omega)
    have es : ∀ f : Int → Int, sk_sm f 0 (j + 1) = sk_sm f 0 j + f j := fun f => by rw [sk_sm_add]; simp [sk_sm]
    have ef : sk_fd (ml_row ag) 0 (j + 1) (ml_l0 l, s) = ml_row ag j (sk_fd (ml_row ag) 0 j (ml_l0 l, s)) := by
      have : ∀ (n : Nat) (i : Int) (p : (Int → Int) × (Int → Int)), sk_fd (ml_row ag) i (n + 1) p = ml_row ag (i + n) (sk_fd (ml_row ag) i n p) := by
        intro n
        induction n with
        | zero => intro i p; simp [sk_fd]
        | succ n ih => intro i p; rw [sk_fd, ih (i + 1)]; simp only [sk_fd]; rw [show i + 1 + (n : Int) = i + ((n + 1 : Nat) : Int) by push_cast; omega]
      rw [this j 0, Int.zero_add]
    rw [ef]
    generalize sk_fd (ml_row ag) 0 j (ml_l0 l, s) = p at *
    have hj' := fun n a b => hag j n (by omega) (by omega) a b
    refine ⟨fun n hn h16 => ?_, fun k a b => ?_⟩
    · rw [es, es] at *
      have hnj := hn j (by omega) (by push_cast; omega)
      have hA := hag j (n j) (by omega) (by omega) hnj.1 hnj.2
      have hS : 0 ≤ sk_sm (fun r => ag (55 * r + n r)) 0 j := by
        have := sk_sm_le (f := fun r => ag (55 * r + n r)) (a := 0) (b := 16) j 0 (fun r a b => hag r (n r) a (by omega) (hn r a (by push_cast; omega)).1 (hn r a (by push_cast; omega)).2)
        omega
      rw [ml_row_at (by omega) h16]
      have k1 := (ml_s1_at (least := p.1) (s := p.2) (k := sk_sm (fun r => ag (55 * r + n r)) 0 j + ag (55 * j + n j)) (by omega) h16 hj').2.1 (n j) hnj.1 hnj.2 (by omega)
      rw [show sk_sm (fun r => ag (55 * r + n r)) 0 j + ag (55 * j + n j) - ag (55 * j + n j) = sk_sm (fun r => ag (55 * r + n r)) 0 j by omega] at k1
      have k2 := i1 n (fun r a b => hn r a (by push_cast; omega)) (by omega)
      omega
    · rw [ml_row_at a b]
      obtain ⟨q1, q2, q3⟩ := ml_s1_at (least := p.1) (s := p.2) (k := k) a b hj'
      refine ⟨q1, fun hlt => ?_⟩
      rcases q3 with q3 | ⟨n, n0, n1, n2, n3⟩
      · omega
      · have hA := hag j n (by omega) (by omega) n0 n1
        obtain ⟨m1, m2⟩ := i2 (k - ag (55 * j + n)) (by omega) (by omega)
        obtain ⟨f, f1, f2, f3⟩ := m2 (by omega)
        refine ⟨sk_up f j n, fun r a b => ?_, ?_, ?_⟩
        · by_cases z : r = j
          · rw [z, sk_up_self]; omega
          · rw [sk_up_ne _ _ z]; exact f1 r a b
        · rw [es, sk_up_self]
          have : sk_sm (fun r => ag (55 * r + sk_up f j n r)) 0 j = sk_sm (fun r => ag (55 * r + f r)) 0 j := sk_sm_congr _ _ (fun r a b => by (try simp only []); rw [sk_up_ne _ _ (by omega)])
          rw [this, f2]; omega
        · rw [es, sk_up_self]
          have : sk_sm (sk_up f j n) 0 j = sk_sm f 0 j := sk_sm_congr _ _ (fun r a b => sk_up_ne _ _ (by omega))
          rw [this, f3, n3]
theorem ml_fin_at (least : Int → Int) : ∀ (m : Nat) (i f : Int), sk_fd (fun k f => sk_min f (least k)) i m f ≤ f ∧ (∀ k, i ≤ k → k < i + m → sk_fd (fun k f => sk_min f (least k)) i m f ≤ least k) ∧ (sk_fd (fun k f => sk_min f (least k)) i m f = f ∨ ∃ k, i ≤ k ∧ k < i + m ∧ sk_fd (fun k f => sk_min f (least k)) i m f = least k)
  | 0, i, f => by simp only [sk_fd]; exact ⟨by omega, fun k a b => by push_cast at b; omega, by first | exact Or.inl rfl | exact Or.inl trivial⟩
  | m + 1, i, f => by
    simp only [sk_fd]
    obtain ⟨r1, r2, r3⟩ := ml_fin_at least m (i + 1) (sk_min f (least i))
    have mn := sk_min_in f (least i)
    refine ⟨by omega, fun k a b => ?_, ?_⟩
    · by_cases z : k = i
      · subst z; omega
      · exact r2 k (by omega) (by push_cast at b; omega)
    · rcases r3 with r3 | ⟨k, a, b, c⟩
      · rcases mn.2.2 with q | q
        · exact Or.inl (r3.trans q)
        · exact Or.inr ⟨i, by omega, by push_cast; omega, r3.trans q⟩
      · exact Or.inr ⟨k, by omega, by push_cast; omega, c⟩
end RREF
section RCLS
variable {r m b : Int → Int} {size row : Int}
theorem ls_wr_at {l : Int → Int} {w : Int} : ∀ (n : Nat) (i acc : Int), 0 ≤ i → sk_fd (fun k acc => if r k = row then sk_min acc (l (sk_max 0 (w - b k)) + m k) else acc) i n acc ≤ acc ∧ (∀ k, i ≤ k → k < i + n → r k = row → sk_fd (fun k acc => if r k = row then sk_min acc (l (sk_max 0 (w - b k)) + m k) else acc) i n acc ≤ l (sk_max 0 (w - b k)) + m k) ∧ (sk_fd (fun k acc => if r k = row then sk_min acc (l (sk_max 0 (w - b k)) + m k) else acc) i n acc = acc ∨ ∃ k, i ≤ k ∧ k < i + n ∧ r k = row ∧ sk_fd (fun k acc => if r k = row then sk_min acc (l (sk_max 0 (w - b k)) + m k) else acc) i n acc = l (sk_max 0 (w - b k)) + m k)
  | 0, i, acc, _ => by simp only [sk_fd]; exact ⟨by omega, fun k a b => by push_cast at b; omega, by first | exact Or.inl rfl | exact Or.inl trivial⟩
  | n + 1, i, acc, i0 => by
    simp only [sk_fd]
    have mn := sk_min_in acc (l (sk_max 0 (w - b i)) + m i)
    have eb : (if r i = row then sk_min acc (l (sk_max 0 (w - b i)) + m i) else acc) ≤ acc ∧ (r i = row → (if r i = row then sk_min acc (l (sk_max 0 (w - b i)) + m i) else acc) ≤ l (sk_max 0 (w - b i)) + m i) ∧ ((if r i = row then sk_min acc (l (sk_max 0 (w - b i)) + m i) else acc) = acc ∨ (r i = row ∧ (if r i = row then sk_min acc (l (sk_max 0 (w - b i)) + m i) else acc) = l (sk_max 0 (w - b i)) + m i)) := by
      by_cases z : r i = row
      · simp only [if_pos z]
        exact ⟨mn.1, fun _ => mn.2.1, mn.2.2.elim Or.inl (fun q => Or.inr ⟨z, q⟩)⟩
      · simp only [if_neg z]
        exact ⟨by omega, fun q => absurd q z, Or.inl trivial⟩
    generalize (if r i = row then sk_min acc (l (sk_max 0 (w - b i)) + m i) else acc) = v at *
    obtain ⟨r1, r2, r3⟩ := ls_wr_at (l := l) (w := w) n (i + 1) v (by omega)
    refine ⟨by omega, fun k a b c => ?_, ?_⟩
    · by_cases z : k = i
      · subst z; have := eb.2.1 c; omega
      · exact r2 k (by omega) (by push_cast at b; omega) c
    · rcases r3 with r3 | ⟨k, a, b, c, d⟩
      · rcases eb.2.2 with q | ⟨q1, q2⟩
        · exact Or.inl (r3.trans q)
        · exact Or.inr ⟨i, by omega, by push_cast; omega, q1, r3.trans q2⟩
      · exact Or.inr ⟨k, by omega, by push_cast; omega, c, d⟩
theorem ls_w_at : ∀ (W : Nat) (l : Int → Int) (x : Int), (∀ k, 0 ≤ k → k < size → 0 ≤ b k) → ls_w r m b size row W l x = if 1 ≤ x ∧ x ≤ W then ls_wr r m b l size row x else l x
  | 0, l, x, _ => by simp only [ls_w]; rw [if_neg (by push_cast; omega)]
  | W + 1, l, x, hb => by
    simp only [ls_w]
    rw [ls_w_at W _ x hb]
    push_cast
    have mx : ∀ z : Int, 0 ≤ z → ∀ v, 1 ≤ v → sk_max 0 (v - z) ≤ v ∧ 0 ≤ sk_max 0 (v - z) := fun z hz v hv => by unfold sk_max; split <;> omega
    by_cases e : 1 ≤ x ∧ x ≤ W
    · rw [if_pos e, if_pos (by omega)]
      unfold ls_wr
      rw [sk_up_ne _ _ (by omega)]
      refine sk_fd_congr _ _ _ (fun k s a c => ?_)
      (try simp only [])
      have := mx (b k) (hb k a (by omega)) x e.1
      rw [sk_up_ne _ _ (by omega)]
    · rw [if_neg e]
      by_cases z : x = (W : Int) + 1
      · rw [if_pos (by omega), z, sk_up_self]
      · rw [if_neg (by omega), sk_up_ne _ _ z]
/-- letters of a row lost by t -/
def Lc (r m : Int → Int) (size row t : Int) : Int := sk_sm (fun k => if r k = row ∧ m k ≤ t then 1 else 0) 0 size.toNat
theorem Lc_in (t : Int) : 0 ≤ Lc r m size row t := by
  have := sk_sm_le (f := fun k => if r k = row ∧ m k ≤ t then 1 else 0) (a := 0) (b := 1) size.toNat 0 (fun j _ _ => by split <;> omega)
  unfold Lc
  omega
theorem max_k (P : Int → Prop) (m : Int → Int) : ∀ N : Nat, (∀ k, 0 ≤ k → k < (N : Int) → ¬ P k) ∨ ∃ k, 0 ≤ k ∧ k < (N : Int) ∧ P k ∧ ∀ o, 0 ≤ o → o < (N : Int) → P o → m o ≤ m k
  | 0 => Or.inl (fun k a b => by push_cast at b; omega)
  | N + 1 => by
    rcases max_k P m N with h | ⟨k, k0, k1, k2, k3⟩
    · rcases Classical.em (P N) with q | q
      · refine Or.inr ⟨N, by omega, by push_cast; omega, q, fun o a b c => ?_⟩
        by_cases z : o = N
        · rw [z]; omega
        · exact absurd c (h o a (by push_cast at b; omega))
      · refine Or.inl (fun k a b c => ?_)
        by_cases z : k = N
        · rw [z] at c; exact q c
        · exact h k a (by push_cast at b; omega) c
    · rcases Classical.em (P N ∧ m k ≤ m N) with q | q
      · refine Or.inr ⟨N, by omega, by push_cast; omega, q.1, fun o a b c => ?_⟩
        by_cases z : o = N
        · rw [z]; omega
        · have := k3 o a (by push_cast at b; omega) c; omega
      · refine Or.inr ⟨k, k0, by push_cast; omega, k2, fun o a b c => ?_⟩
        by_cases z : o = N
        · rw [z] at c ⊢
          rcases Classical.em (m k ≤ m N) with y | y
          · exact absurd ⟨c, y⟩ q
          · omega
        · exact k3 o a (by push_cast at b; omega) c
theorem cls_dp {W : Nat} {l0 : Int → Int} (s0 : 0 ≤ size) (hm : ∀ k, 0 ≤ k → k < size → 1 ≤ m k ∧ m k < 55) (hb : ∀ k, 0 ≤ k → k < size → b k = ls_lw r m size k) (W16 : W ≤ 16) (hl0 : ∀ j, 0 ≤ j → j ≤ 16 → l0 j = if j = 0 then 0 else 1000000) : ∀ j : Nat, (∀ (n : Int → Int) (x : Int), (∀ q : Int, 0 ≤ q → q < (j : Int) → 0 ≤ n q) → 0 ≤ x → x ≤ (W : Int) → x ≤ sk_sm (fun q => Lc r m size q (n q)) 0 j → sk_fd (fun row l => ls_w r m b size row W l) 0 j l0 x ≤ sk_sm n 0 j) ∧ ∀ x : Int, 0 ≤ x → x ≤ (W : Int) → (0 ≤ sk_fd (fun row l => ls_w r m b size row W l) 0 j l0 x ∧ sk_fd (fun row l => ls_w r m b size row W l) 0 j l0 x ≤ 1000000) ∧ (sk_fd (fun row l => ls_w r m b size row W l) 0 j l0 x < 1000000 → ∃ n : Int → Int, (∀ q, 0 ≤ q → q < 5 → 0 ≤ n q ∧ n q < 55) ∧ x ≤ sk_sm (fun q => Lc r m size q (n q)) 0 j ∧ sk_sm n 0 j = sk_fd (fun row l => ls_w r m b size row W l) 0 j l0 x)
  | 0 => by
    simp only [sk_fd, sk_sm]
    refine ⟨fun n x _ x0 x1 h => ?_, fun x x0 x1 => ?_⟩
    · rw [hl0 x x0 (by omega), if_pos (by omega)]; omega
    · rw [hl0 x x0 (by omega)]
      by_cases z : x = 0
      · rw [if_pos z]
        exact ⟨by omega, fun _ => ⟨fun _ => 0, fun _ _ _ => ⟨by simp, by simp⟩, by omega, rfl⟩⟩
      · rw [if_neg z]
        exact ⟨by omega, fun h => by omega⟩
  | j + 1 => by
    obtain ⟨i1, i2⟩ := cls_dp (W := W) (l0 := l0) s0 hm hb W16 hl0 j
    have hbn : ∀ k, 0 ≤ k → k < size → 0 ≤ b k := fun k a c => by rw [hb k a c]; exact Lc_in (r := r) (m := m) (size := size) (row := r k) (m k)
    have es : ∀ f : Int → Int, sk_sm f 0 (j + 1) = sk_sm f 0 j + f j := fun f => by rw [sk_sm_add]; simp [sk_sm]
    have ef : sk_fd (fun row l => ls_w r m b size row W l) 0 (j + 1) l0 = ls_w r m b size j W (sk_fd (fun row l => ls_w r m b size row W l) 0 j l0) := by
      have : ∀ (n : Nat) (i : Int) (p : Int → Int), sk_fd (fun row l => ls_w r m b size row W l) i (n + 1) p = ls_w r m b size (i + n) W (sk_fd (fun row l => ls_w r m b size row W l) i n p) := by
        intro n
        induction n with
        | zero => intro i p; simp [sk_fd]
        | succ n ih => intro i p; rw [sk_fd, ih (i + 1)]; simp only [sk_fd]; rw [show i + 1 + (n : Int) = i + ((n + 1 : Nat) : Int) by push_cast; omega]
      rw [this j 0, Int.zero_add]
    rw [ef]
    generalize sk_fd (fun row l => ls_w r m b size row W l) 0 j l0 = p at *
    have mx : ∀ z : Int, 0 ≤ z → ∀ v, 1 ≤ v → sk_max 0 (v - z) ≤ v ∧ 0 ≤ sk_max 0 (v - z) ∧ (sk_max 0 (v - z) = 0 ∨ sk_max 0 (v - z) = v - z) ∧ v - z ≤ sk_max 0 (v - z) := fun z hz v hv => by unfold sk_max; split <;> omega
    have hw := fun x => ls_wr_at (r := r) (m := m) (b := b) (row := (j : Int)) (l := p) (w := x) size.toNat 0 (p x) (by omega)
    have ew : ∀ x, sk_fd (fun k acc => if r k = (j : Int) then sk_min acc (p (sk_max 0 (x - b k)) + m k) else acc) 0 size.toNat (p x) = ls_wr r m b p size j x := fun x => rfl
    refine ⟨fun n x hn x0 x1 h => ?_, fun x x0 x1 => ?_⟩
    · rw [es] at h ⊢
      (try simp only [] at h)
      rw [ls_w_at W p x hbn]
      have hnj := hn j (by omega) (by push_cast; omega)
      have hsn : 0 ≤ sk_sm n 0 j := by
        have : ∀ (c : Nat) (i : Int), 0 ≤ i → i + c ≤ j → 0 ≤ sk_sm n i c := by
          intro c
          induction c with
          | zero => intro i _ _; simp [sk_sm]
          | succ c ih => intro i i0 i1; simp only [sk_sm]; have := ih (i + 1) (by omega) (by push_cast at i1; omega); have := hn i i0 (by push_cast at i1 ⊢; omega); omega
        exact this j 0 (by omega) (by omega)
      by_cases x1' : 1 ≤ x
      · rw [if_pos ⟨x1', x1⟩, ← ew]
        obtain ⟨w1, w2, -⟩ := hw x
        rcases max_k (fun k => r k = (j : Int) ∧ m k ≤ n j) m size.toNat with q | ⟨k, k0, k1, ⟨k2, k3⟩, k4⟩
        · have z : Lc r m size j (n j) = 0 := by
            unfold Lc
            exact sk_sm_zero _ _ (fun k a c => by (try simp only []); rw [if_neg (q k a (by omega))])
          have := i1 n x (fun q a b => hn q a (by push_cast; omega)) x0 x1 (by omega)
          omega
        · have eb : b k = Lc r m size j (n j) := by
            rw [hb k k0 (by omega)]
            unfold ls_lw Lc
            refine sk_sm_congr _ _ (fun o a c => ?_)
            (try simp only [])
            rw [k2]
            by_cases z : r o = (j : Int) ∧ m o ≤ n j
            · rw [if_pos z, if_pos ⟨z.1, k4 o a (by omega) z⟩]
            · rw [if_neg z, if_neg (fun y => z ⟨y.1, by omega⟩)]
          have hx := mx (b k) (hbn k k0 (by omega)) x x1'
          have := w2 k k0 (by omega) k2
          have := i1 n (sk_max 0 (x - b k)) (fun q a b => hn q a (by push_cast; omega)) hx.2.1 (by omega) (by
            have hS : 0 ≤ sk_sm (fun q => Lc r m size q (n q)) 0 j := by
              have : ∀ (c : Nat) (i : Int), 0 ≤ sk_sm (fun q => Lc r m size q (n q)) i c := by
                intro c
                induction c with
                | zero => intro i; simp [sk_sm]
                | succ c ih => intro i; simp only [sk_sm]; have := ih (i + 1); have := Lc_in (r := r) (m := m) (size := size) (row := i) (n i); omega
              exact this j 0
            omega)
          omega
      · rw [if_neg (by omega)]
        have := i1 n x (fun q a b => hn q a (by push_cast; omega)) x0 x1 (by
          have : ∀ (c : Nat) (i : Int), 0 ≤ sk_sm (fun q => Lc r m size q (n q)) i c := by
            intro c
            induction c with
            | zero => intro i; simp [sk_sm]
            | succ c ih => intro i; simp only [sk_sm]; have := ih (i + 1); have := Lc_in (r := r) (m := m) (size := size) (row := i) (n i); omega
          have := this j 0
          omega)
        omega
    · rw [ls_w_at W p x hbn]
      obtain ⟨⟨p0, p1⟩, p2⟩ := i2 x x0 x1
      have base : p x < 1000000 → ∃ n : Int → Int, (∀ q, 0 ≤ q → q < 5 → 0 ≤ n q ∧ n q < 55) ∧ x ≤ sk_sm (fun q => Lc r m size q (n q)) 0 (j + 1) ∧ sk_sm n 0 (j + 1) = p x := by
        intro hlt
        obtain ⟨f, f1, f2, f3⟩ := p2 hlt
        refine ⟨sk_up f j 0, fun q a c => ?_, ?_, ?_⟩
        · by_cases z : q = j
          · rw [z, sk_up_self]; omega
          · rw [sk_up_ne _ _ z]; exact f1 q a c
        · rw [es]
          have : sk_sm (fun q => Lc r m size q (sk_up f j 0 q)) 0 j = sk_sm (fun q => Lc r m size q (f q)) 0 j := sk_sm_congr _ _ (fun r a b => by (try simp only []); rw [sk_up_ne _ _ (by omega)])
          have := Lc_in (r := r) (m := m) (size := size) (row := j) (sk_up f j 0 j)
          omega
        · rw [es, sk_up_self]
          have : sk_sm (sk_up f j 0) 0 j = sk_sm f 0 j := sk_sm_congr _ _ (fun r a b => sk_up_ne _ _ (by omega))
          omega
      by_cases x1' : 1 ≤ x
      · rw [if_pos ⟨x1', x1⟩, ← ew]
        obtain ⟨w1, w2, w3⟩ := hw x
        rcases w3 with w3 | ⟨k, k0, k1, k2, k3⟩
        · rw [w3]
          exact ⟨⟨p0, p1⟩, base⟩
        · have hx := mx (b k) (hbn k k0 (by omega)) x x1'
          obtain ⟨⟨q0, q1⟩, q2⟩ := i2 (sk_max 0 (x - b k)) hx.2.1 (by omega)
          have hmk := hm k k0 (by omega)
          refine ⟨⟨by omega, by omega⟩, fun hlt => ?_⟩
          obtain ⟨f, f1, f2, f3⟩ := q2 (by omega)
          refine ⟨sk_up f j (m k), fun q a c => ?_, ?_, ?_⟩
          · by_cases z : q = j
            · rw [z, sk_up_self]; omega
            · rw [sk_up_ne _ _ z]; exact f1 q a c
          · rw [es, sk_up_self]
            have e1 : sk_sm (fun q => Lc r m size q (sk_up f j (m k) q)) 0 j = sk_sm (fun q => Lc r m size q (f q)) 0 j := sk_sm_congr _ _ (fun r a b => by (try simp only []); rw [sk_up_ne _ _ (by omega)])
            have e2 : b k = Lc r m size j (m k) := by rw [hb k k0 (by omega)]; unfold ls_lw Lc; rw [k2]
            omega
          · rw [es, sk_up_self, k3]
            have : sk_sm (sk_up f j (m k)) 0 j = sk_sm f 0 j := sk_sm_congr _ _ (fun r a b => sk_up_ne _ _ (by omega))
            omega
      · rw [if_neg (by omega)]
        exact ⟨⟨p0, p1⟩, base⟩
end RCLS
