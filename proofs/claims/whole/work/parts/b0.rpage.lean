/-! ===== the page and the row: what is read of both ===== -/
def prc (hands : Int) (ly hs nw : Int → Int) (c : Int) : Prop := nw c = hs c ∧ 0 ≤ hs c ∧ hs c ≤ 6 ∧ ∀ i, 0 ≤ i → i < hs c → mt nw c i = a_t6 ly c i ∧ mh nw c i = a_h6 ly c i ∧ ms nw c i = a_s6 ly c i ∧ (0 ≤ a_t6 ly c i ∧ a_t6 ly c i < 26) ∧ (0 ≤ a_h6 ly c i ∧ a_h6 ly c i < hands) ∧ 1 ≤ a_s6 ly c i ∧ a_s6 ly c i ≤ 9
def pr (cells hands : Int) (ly hs nw : Int → Int) : Prop := (∀ c, 0 ≤ c → c < 40 → prc hands ly hs nw c) ∧ ∀ c, cells ≤ c → c < 40 → hs c = 0
theorem a_shown_c {t s t' s' : Int → Int} {leg n : Int} (n0 : 0 ≤ n) (h : ∀ i, 0 ≤ i → i < n → t i = t' i ∧ s i = s' i) : a_shown t s leg n = a_shown t' s' leg n := by
  unfold a_shown
  by_cases e : n = 0
  · rw [if_pos (Or.inl e), if_pos (Or.inl e)]
  · rw [(h (n - 1) (by omega) (by omega)).1, (h (n - 1) (by omega) (by omega)).2]
theorem a_lit_c {t s t' s' : Int → Int} {leg n : Int} (h : ∀ i, 0 ≤ i → i < n → t i = t' i ∧ s i = s' i) : a_lit t s leg n = a_lit t' s' leg n := by
  unfold a_lit
  refine sk_ff_congr _ _ (fun j j0 j1 => ?_)
  obtain ⟨h1, h2⟩ := h j j0 (by omega)
  try simp only []
  rw [h1, h2]
  exact ⟨rfl, rfl⟩
theorem a_ben_c {t s t' s' : Int → Int} {leg n : Int} (n0 : 0 ≤ n) (h : ∀ i, 0 ≤ i → i < n → t i = t' i ∧ s i = s' i) : a_ben t s leg n = a_ben t' s' leg n := by
  unfold a_ben
  rw [a_lit_c h, a_shown_c n0 h]
theorem a_leg_c {s s' : Int → Int} {leg n : Int} (h : ∀ i, 0 ≤ i → i < n → s i = s' i) : a_leg s leg n = a_leg s' leg n := by
  unfold a_leg
  refine sk_sm_congr _ _ (fun j j0 j1 => ?_)
  try simp only []
  rw [h j j0 (by omega)]
theorem a_ver_c {t s t' s' : Int → Int} {leg x n : Int} (h : ∀ i, 0 ≤ i → i < n → t i = t' i ∧ s i = s' i) : a_ver t s leg x n = a_ver t' s' leg x n := by
  unfold a_ver
  refine sk_fd_congr _ _ _ (fun j v j0 j1 => ?_)
  obtain ⟨h1, h2⟩ := h j j0 (by omega)
  unfold a_vd
  rw [h1, h2]
theorem a_pure_c {w w' : Int → Int} {n : Int} (h : ∀ i, 0 ≤ i → i < n → w i = w' i) : a_pure w n = a_pure w' n := by
  unfold a_pure
  by_cases e : n ≤ 0
  · rw [if_pos e, if_pos e]
  · rw [if_neg e, if_neg e]
    refine sk_ff_congr _ _ (fun j j0 j1 => ?_)
    try simp only []
    rw [h j (by omega) (by omega), h 0 (by omega) (by omega)]
    exact ⟨rfl, trivial⟩
theorem sk_sm_add (f : Int → Int) : ∀ (n m : Nat) (i : Int), sk_sm f i (n + m) = sk_sm f i n + sk_sm f (i + n) m
  | 0, m, i => by simp [sk_sm]
  | n + 1, m, i => by
    rw [show n + 1 + m = (n + m) + 1 by omega]
    simp only [sk_sm]
    rw [sk_sm_add f n m (i + 1)]
    rw [show i + 1 + (n : Int) = i + ((n + 1 : Nat) : Int) by push_cast; omega]
    omega
theorem sk_sm_zero {f : Int → Int} : ∀ (n : Nat) (i : Int), (∀ j, i ≤ j → j < i + n → f j = 0) → sk_sm f i n = 0
  | 0, _, _ => rfl
  | n + 1, i, h => by
    simp only [sk_sm]
    rw [h i (by omega) (by omega), sk_sm_zero n (i + 1) (fun j a b => h j (by omega) (by omega))]
    rfl
theorem sk_sm_cut {f : Int → Int} {c n : Int} (c0 : 0 ≤ c) (cn : c ≤ n) (h : ∀ j, c ≤ j → j < n → f j = 0) : sk_sm f 0 n.toNat = sk_sm f 0 c.toNat := by
  rw [show n.toNat = c.toNat + (n - c).toNat by omega, sk_sm_add, sk_sm_zero (n - c).toNat (0 + (c.toNat : Int)) (fun j a b => h j (by omega) (by omega))]
  omega
theorem sk_sm_shift (f : Int → Int) (a : Int) : ∀ (n : Nat) (i : Int), sk_sm f (a + i) n = sk_sm (fun j => f (a + j)) i n
  | 0, _ => rfl
  | n + 1, i => by
    simp only [sk_sm]
    rw [show a + i + 1 = a + (i + 1) by omega, sk_sm_shift f a n (i + 1)]
theorem sk_fd_sh {α : Type} (f : Int → α → α) (a : Int) : ∀ (n : Nat) (i : Int) (s : α), sk_fd f (a + i) n s = sk_fd (fun j => f (a + j)) i n s
  | 0, _, _ => rfl
  | n + 1, i, s => by
    simp only [sk_fd]
    rw [show a + i + 1 = a + (i + 1) by omega, sk_fd_sh f a n (i + 1)]
section RPAGE
variable {cells hands : Int} {ly hs nw : Int → Int} {c leg x : Int}
theorem prc_ts (h : prc hands ly hs nw c) : ∀ i, 0 ≤ i → i < hs c → mt nw c i = a_t6 ly c i ∧ ms nw c i = a_s6 ly c i := fun i i0 i1 => ⟨(h.2.2.2 i i0 i1).1, (h.2.2.2 i i0 i1).2.2.1⟩
theorem pr_shown (h : prc hands ly hs nw c) : a_shown (mt nw c) (ms nw c) leg (nw c) = a_shown (a_t6 ly c) (a_s6 ly c) leg (hs c) := by rw [h.1]; exact a_shown_c h.2.1 (prc_ts h)
theorem pr_lit (h : prc hands ly hs nw c) : a_lit (mt nw c) (ms nw c) leg (nw c) = a_lit (a_t6 ly c) (a_s6 ly c) leg (hs c) := by rw [h.1]; exact a_lit_c (prc_ts h)
theorem pr_ben (h : prc hands ly hs nw c) : a_ben (mt nw c) (ms nw c) leg (nw c) = a_ben (a_t6 ly c) (a_s6 ly c) leg (hs c) := by rw [h.1]; exact a_ben_c h.2.1 (prc_ts h)
theorem pr_leg (h : prc hands ly hs nw c) : a_leg (ms nw c) leg (nw c) = a_leg (a_s6 ly c) leg (hs c) := by rw [h.1]; exact a_leg_c (fun i i0 i1 => (prc_ts h i i0 i1).2)
theorem pr_ver (h : prc hands ly hs nw c) : a_ver (mt nw c) (ms nw c) leg x (nw c) = x_ver ly hs leg x c := by rw [h.1]; exact a_ver_c (prc_ts h)
theorem pr_pure (h : prc hands ly hs nw c) : a_pure (mh nw c) (nw c) = a_pure (a_h6 ly c) (hs c) := by rw [h.1]; exact a_pure_c (fun i i0 i1 => (h.2.2.2 i i0 i1).2.1)
theorem pr_all (h : pr cells hands ly hs nw) (c0 : 0 ≤ cells) (c1 : cells ≤ 40) : sk_sm hs 0 40 = sk_sm nw 0 cells.toNat := by
  have e := sk_sm_cut (f := hs) (c := cells) (n := 40) c0 c1 (fun j a b => h.2 j a b)
  rw [show ((40 : Int)).toNat = 40 from rfl] at e
  rw [e]
  exact sk_sm_congr _ _ (fun j a b => ((h.1 j a (by omega)).1).symm)
theorem pr_hand (h : pr cells hands ly hs nw) (c0 : 0 ≤ cells) (c1 : cells ≤ 40) (k what : Int) : sk_sm (fun c => sk_sm (fun i => if a_h6 ly c i = k then (if what = 0 then 1 else a_s6 ly c i) else 0) 0 (hs c).toNat) 0 40 = mo_hand nw cells k what := by
  have e := sk_sm_cut (f := fun c => sk_sm (fun i => if a_h6 ly c i = k then (if what = 0 then 1 else a_s6 ly c i) else 0) 0 (hs c).toNat) (c := cells) (n := 40) c0 c1 (fun j a b => by (try simp only []); rw [h.2 j a b]; rfl)
  rw [show ((40 : Int)).toNat = 40 from rfl] at e
  rw [e]
  unfold mo_hand
  refine sk_sm_congr _ _ (fun j a b => ?_)
  obtain ⟨p1, p2, p3, p4⟩ := h.1 j a (by omega)
  try simp only []
  rw [p1]
  refine sk_sm_congr _ _ (fun i i0 i1 => ?_)
  obtain ⟨q1, q2, q3, -⟩ := p4 i i0 (by omega)
  try simp only []
  rw [q2, q3]
theorem pr_str (h : pr cells hands ly hs nw) (c0 : 0 ≤ cells) (c1 : cells ≤ 40) (k : Int) : a_str ly hs k = mo_hand nw cells k 1 := by
  rw [← pr_hand h c0 c1 k 1]
  rfl
theorem pr_lay (h : pr cells hands ly hs nw) (c0 : 0 ≤ cells) (c1 : cells ≤ 40) (k : Int) : sk_sm (fun c => sk_sm (fun i => if ly (6 * c + i) / 16 % 4 = k then 1 else 0) 0 (hs c).toNat) 0 40 = mo_hand nw cells k 0 := by
  rw [← pr_hand h c0 c1 k 0]
  rfl
theorem mo_hand_0 (h : pr cells hands ly hs nw) (c1 : cells ≤ 40) {k : Int} (hk : hands ≤ k) (what : Int) : mo_hand nw cells k what = 0 := by
  unfold mo_hand
  refine sk_sm_zero _ _ (fun j a b => ?_)
  obtain ⟨p1, p2, p3, p4⟩ := h.1 j a (by omega)
  refine sk_sm_zero _ _ (fun i i0 i1 => ?_)
  obtain ⟨q1, q2, q3, q4, q5, -⟩ := p4 i i0 (by omega)
  try simp only []
  rw [if_neg (by omega)]
theorem pr_stra (h : pr cells hands ly hs nw) (c0 : 0 ≤ cells) (c1 : cells ≤ 40) (h0 : 0 ≤ hands) (h4 : hands ≤ 4) : sk_sm (a_str ly hs) 0 4 = sk_sm (fun k => mo_hand nw cells k 1) 0 hands.toNat := by
  have e := sk_sm_cut (f := a_str ly hs) (c := hands) (n := 4) h0 h4 (fun j a b => by rw [pr_str h c0 c1, mo_hand_0 h c1 a])
  rw [show ((4 : Int)).toNat = 4 from rfl] at e
  rw [e]
  exact sk_sm_congr _ _ (fun j _ _ => pr_str h c0 c1 j)
/-- pairs, one by one -/
theorem a_prs_sm (w : Int → Int) (one other : Int) : ∀ (n : Nat) (i : Nat) (p : Int × Int), p.2 = sk_sm (fun k => if w k = other then 1 else 0) 0 i → (sk_fd (a_prs w one other) i n p).1 = p.1 + sk_sm (fun j => sk_sm (fun k => if w j = one ∧ w k = other then 1 else 0) 0 j.toNat) i n
  | 0, i, p, _ => by simp [sk_fd, sk_sm]
  | n + 1, i, p, hp => by
    simp only [sk_fd, sk_sm]
    have e2 : (a_prs w one other i p).2 = sk_sm (fun k => if w k = other then 1 else 0) 0 (i + 1) := by
      rw [sk_sm_add _ i 1 0]
      show p.2 + _ = _
      rw [hp]
      simp [sk_sm]
    have ih := a_prs_sm w one other n (i + 1) (a_prs w one other i p) e2
    rw [show ((i : Int) + 1) = ((i + 1 : Nat) : Int) by push_cast; rfl, ih]
    show p.1 + _ + _ = _
    rw [show ((i : Int)).toNat = i by omega]
    have e3 : (if w i = one then p.2 else 0) = sk_sm (fun k => if w i = one ∧ w k = other then 1 else 0) 0 i := by
      by_cases q : w i = one
      · rw [if_pos q, hp]
        exact sk_sm_congr _ _ (fun j _ _ => by (try simp only []); by_cases z : w j = other; rw [if_pos z, if_pos ⟨q, z⟩]; rw [if_neg z, if_neg (fun y => z y.2)])
      · rw [if_neg q, sk_sm_zero]
        intro j _ _
        try simp only []
        rw [if_neg (fun y => q y.1)]
    rw [e3]
    omega
theorem a_pr_sm (w : Int → Int) (one other h : Int) : a_pr w one other h = sk_sm (fun j => sk_sm (fun k => if w j = one ∧ w k = other then 1 else 0) 0 j.toNat) 0 h.toNat := by
  have := a_prs_sm w one other h.toNat 0 (0, 0) rfl
  unfold a_pr
  try simp only [] at this
  rw [Int.zero_add] at this
  exact this
theorem pr_over (h : pr cells hands ly hs nw) (c0 : 0 ≤ cells) (c1 : cells ≤ 40) (a b : Int) : x_prs ly hs a b = mo_over nw cells a b := by
  have e := sk_sm_cut (f := fun c => a_pr (a_h6 ly c) a b (hs c)) (c := cells) (n := 40) c0 c1 (fun j p q => by (try simp only []); rw [h.2 j p q]; rfl)
  rw [show ((40 : Int)).toNat = 40 from rfl] at e
  unfold x_prs mo_over
  rw [e]
  refine sk_sm_congr _ _ (fun j p q => ?_)
  obtain ⟨p1, p2, p3, p4⟩ := h.1 j p (by omega)
  try simp only []
  rw [a_pr_sm, p1]
  refine sk_sm_congr _ _ (fun i i0 i1 => ?_)
  try simp only []
  refine sk_sm_congr _ _ (fun k k0 k1 => ?_)
  try simp only []
  rw [(p4 i i0 (by omega)).2.1, (p4 k k0 (by omega)).2.1]
end RPAGE
