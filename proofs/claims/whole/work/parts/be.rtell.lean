/-! ===== what is asked: which cell tells most ===== -/
theorem sk_fd_rel {α β : Type} {Rl : α → β → Prop} {f : Int → α → α} {g : Int → β → β} : ∀ (n : Nat) (i : Int) (s : α) (t : β), (∀ j s t, i ≤ j → j < i + n → Rl s t → Rl (f j s) (g j t)) → Rl s t → Rl (sk_fd f i n s) (sk_fd g i n t)
  | 0, _, _, _, _, h => h
  | n + 1, i, s, t, hf, h => by
    simp only [sk_fd]
    exact sk_fd_rel n (i + 1) (f i s) (g i t) (fun j s t a b => hf j s t (by omega) (by omega)) (hf i s t (by omega) (by omega) h)
theorem sk_sm_plus {f g : Int → Int} : ∀ (n : Nat) (i : Int), sk_sm (fun k => f k + g k) i n = sk_sm f i n + sk_sm g i n
  | 0, _ => by simp [sk_sm]
  | n + 1, i => by simp only [sk_sm]; rw [sk_sm_plus n (i + 1)]; omega
theorem sk_sm_ind (x : Int) : ∀ (n : Nat) (i : Int), i ≤ x → x < i + n → sk_sm (fun k => if x = k then 1 else 0) i n = 1
  | 0, i, h1, h2 => by push_cast at h2; omega
  | n + 1, i, h1, h2 => by
    simp only [sk_sm]
    by_cases e : x = i
    · rw [if_pos e, sk_sm_zero n (i + 1) (fun j a b => if_neg (by omega))]; rfl
    · rw [if_neg e, sk_sm_ind x n (i + 1) (by omega) (by push_cast at h2; omega)]; rfl
theorem sk_sm_snoc {f : Int → Int} (n : Nat) (i : Int) : sk_sm f i (n + 1) = sk_sm f i n + f (i + n) := by
  rw [sk_sm_add f n 1 i]
  simp only [sk_sm]
  omega
theorem mx_le {g : Int → Int} : ∀ (n : Nat) (i m : Int), (∀ j, i ≤ j → j < i + n → 0 ≤ g j) → 0 ≤ m → sk_fd (fun k m => sk_max m (g k)) i n m ≤ m + sk_sm g i n
  | 0, _, m, _, _ => by simp only [sk_fd, sk_sm]; omega
  | n + 1, i, m, h, m0 => by
    simp only [sk_fd, sk_sm]
    have a := h i (by omega) (by omega)
    have b : sk_max m (g i) ≤ m + g i ∧ 0 ≤ sk_max m (g i) := by unfold sk_max; split <;> omega
    have c := mx_le n (i + 1) (sk_max m (g i)) (fun j p q => h j (by omega) (by omega)) b.2
    omega
section RTELL
variable {S : Nat → Int} {Y : Nat → Int → Int} {R nc nle ni : Int → Int} {wn w spot nm : Int} {sg ln pl ss lg : Int → Int → Int} {size lines longest : Int → Int}
theorem left_iff {c x : Int} (h : bw S Y R wn sg ln pl ss lg size lines longest) (w0 : 0 ≤ w) (w1 : w < wn) (hd : rd_does (R 0) (R 1) (lines w) (longest w) spot = true) (x1 : x < 26) : mo_left Y w spot c = x ↔ ∃ k, 0 ≤ k ∧ k < size w ∧ (xw (R 0) (ln w) (pl w) spot k = c ∧ sg w k = x) := by
  obtain ⟨⟨h0, h1, h2⟩, hru, hc, hn, -, hw⟩ := h
  obtain ⟨hr, hg⟩ := hw w w0 w1
  rw [left_eq hr hg h0 h1 hru hd]
  have hW := rd_does_W hru hd
  obtain ⟨hp, hl, -⟩ := id hg
  unfold x_lat
  constructor
  · intro e
    split at e
    · next q =>
      obtain ⟨a1, a2, a3, a4⟩ := q
      have b := hl.2.2.2 _ _ a1 a2 a3 a4
      have b2 := hl.2.1 _ a1 a2
      refine ⟨_, by omega, by omega, ?_, e⟩
      have := rd_cell_of (W := R 0) (Hh := R 1) (spot := spot) (c := c) hW.1
      unfold xw
      rw [b.1, b.2]
      exact this
    · omega
  · rintro ⟨k, k0, k1, e1, e2⟩
    have := xw_lp hW.1 hp hd k0 k1
    rw [e1] at this
    have b := hl.2.2.1 k k0 k1
    obtain ⟨-, -, c1, c2, c3, c4⟩ := hp k k0 k1
    rw [this.1, this.2, if_pos ⟨c1, c2, c3, b.2⟩, b.1]
    exact e2
theorem left_in (h : bw S Y R wn sg ln pl ss lg size lines longest) (w0 : 0 ≤ w) (w1 : w < wn) (c : Int) : 0 ≤ mo_left Y w spot c ∧ mo_left Y w spot c ≤ 26 := by
  obtain ⟨-, -, -, -, -, hw⟩ := h
  obtain ⟨hr, hg⟩ := hw w w0 w1
  have z := hg.2.2.2.2.2.1
  unfold mo_left
  rw [hr.1]
  exact sk_ff_in (lo := 0) (hi := 26) (by omega) (size w).toNat 0 (fun j j0 j1 => by
    have := hg.1 j j0 (by omega)
    rw [(hr.2.1 j j0 (by omega)).1]
    omega)
theorem t1_at (c x : Int) (x0 : 0 ≤ x) (x1 : x < 27) (hl : ∀ l, 0 ≤ mo_left Y w spot l ∧ mo_left Y w spot l ≤ 26) : ∀ (n : Nat) (i : Int) (f : Int → Int), sk_fd (mo_t1 Y w spot) i n f (27 * c + x) = f (27 * c + x) + if i ≤ c ∧ c < i + n ∧ mo_left Y w spot c = x then 1 else 0
  | 0, i, f => by simp only [sk_fd]; rw [if_neg (by push_cast; omega)]; omega
  | n + 1, i, f => by
    simp only [sk_fd]
    rw [t1_at c x x0 x1 hl n (i + 1)]
    unfold mo_t1
    have b := hl i
    by_cases e : 27 * c + x = 27 * i + mo_left Y w spot i
    · have ec : c = i := by omega
      subst ec
      rw [e, sk_up_self, if_neg (by omega), if_pos (by push_cast; omega)]
      omega
    · rw [sk_up_ne _ _ e]
      by_cases ec : c = i
      · subst ec
        rw [if_neg (by omega), if_neg (by omega)]
      · by_cases q : i ≤ c ∧ c < i + (n + 1 : Nat) ∧ mo_left Y w spot c = x
        · rw [if_pos q, if_pos ⟨by omega, by have := q.2.1; push_cast at this; omega, q.2.2⟩]
        · rw [if_neg q, if_neg (fun z => q ⟨by omega, by have := z.2.1; push_cast; omega, z.2.2⟩)]
/-- both tallies tell the same -/
def tr (cells : Int) (p : Int × (Int → Int)) (f : Int → Int) : Prop := ∀ c, 0 ≤ c → c < cells → sk_sm (fun x => f (27 * c + x)) 0 27 = p.1 ∧ (∀ x, 0 ≤ x → x < 27 → 0 ≤ f (27 * c + x)) ∧ ∀ x, 0 ≤ x → x < 26 → p.2 (c * 27 + x) = f (27 * c + x)
theorem tr_one {p : Int × (Int → Int)} {f : Int → Int} (h : bw S Y R wn sg ln pl ss lg size lines longest) (hn : bn S Y nc nle ni nm) (w0 : 0 ≤ w) (w1 : w < wn) (ht : tr (R 0 * R 1) p f) : tr (R 0 * R 1) (x_ak2 R nc nle ni nm sg ln pl ss lg size lines longest w spot p) (mo_t2 S Y w spot f) := by
  unfold x_ak2 mo_t2
  rw [fit_eq h hn w0 w1]
  by_cases e : mo_fit S Y w spot = 1
  · rw [if_pos e, if_pos e]
    have hd : rd_does (R 0) (R 1) (lines w) (longest w) spot = true := by
      unfold mo_fit at e
      split at e
      · next q => exact ((bw_spot h).mp q).2.2
      · omega
    have hl := fun l => left_in (spot := spot) h w0 w1 l
    have hsz := bw_size h w0 w1
    have cl := ru_cells h.2.1
    intro c c0 c1
    obtain ⟨a1, a2, a3⟩ := ht c c0 c1
    have ef : ∀ x, 0 ≤ x → x < 27 → sk_fd (mo_t1 Y w spot) 0 (S 23).toNat f (27 * c + x) = f (27 * c + x) + if mo_left Y w spot c = x then 1 else 0 := by
      intro x x0 x1
      rw [t1_at c x x0 x1 hl]
      have := h.2.2.1
      by_cases z : mo_left Y w spot c = x
      · rw [if_pos z, if_pos ⟨c0, by omega, z⟩]
      · rw [if_neg z, if_neg (fun q => z q.2.2)]
    refine ⟨?_, fun x x0 x1 => ?_, fun x x0 x1 => ?_⟩
    · rw [sk_sm_congr 27 0 (fun x x0 x1 => ef x x0 (by omega)), sk_sm_plus, a1, sk_sm_ind _ 27 0 (hl c).1 (by have := (hl c).2; omega)]
    · have := a2 x x0 x1
      rw [ef x x0 x1]
      split <;> omega
    · rw [ef x x0 (by omega)]
      have hW := rd_does_W h.2.1 hd
      have hg := (h.2.2.2.2.2 w w0 w1).2
      have et := x_ty_at hW.1 hg.1 hg.2.1 hd c x x0 x1 (size w).toNat 0 p.2 (by omega) (by omega)
      (try simp only [])
      rw [et, a3 x x0 x1]
      have o := sk_sm_one (p := fun k => xw (R 0) (ln w) (pl w) spot k = c ∧ sg w k = x) (size w).toNat 0 (fun k k' h1 h2 h3 h4 e1 e2 => xw_inj hW.1 hg.1 hg.2.1 hd h1 (by omega) h3 (by omega) (e1.1.trans e2.1.symm))
      have li := left_iff (c := c) (x := x) h w0 w1 hd x1
      generalize sk_sm (fun k => if xw (R 0) (ln w) (pl w) spot k = c ∧ sg w k = x then 1 else 0) 0 (size w).toNat = v at *
      by_cases z : mo_left Y w spot c = x
      · rw [if_pos z]
        obtain ⟨k, k0, k1, k2⟩ := li.mp z
        have : v = 1 := o.2.2.mpr ⟨k, k0, by omega, k2⟩
        omega
      · rw [if_neg z]
        have : v ≠ 1 := fun q => z (li.mpr (by obtain ⟨k, k0, k1, k2⟩ := o.2.2.mp q; exact ⟨k, k0, by omega, k2⟩))
        omega
  · rw [if_neg e, if_neg e]
    exact ht
theorem tr_all {t t' : Int → Int} (h : bw S Y R wn sg ln pl ss lg size lines longest) (hn : bn S Y nc nle ni nm) (ht : ∀ j, 0 ≤ j → j < 1080 → t j = 0) (ht' : ∀ j, 0 ≤ j → j < 1080 → t' j = 0) : tr (R 0 * R 1) (x_ak R nc nle ni nm wn sg ln pl ss lg size lines longest t) (mo_t4 S Y t') := by
  have cl := ru_cells h.2.1
  unfold x_ak mo_t4
  rw [h.2.2.2.1]
  refine sk_fd_rel _ _ _ _ (fun w p f w0 w1 hr => ?_) ?_
  · unfold x_ak1 mo_t3
    rw [h.2.2.1]
    exact sk_fd_rel _ _ _ _ (fun s p f _ _ hr => tr_one h hn w0 (by have := h.2.2.2.2.1; omega) hr) hr
  · intro c c0 c1
    refine ⟨sk_sm_zero 27 0 (fun x a b => ht' _ (by omega) (by omega)), fun x a b => by rw [ht' _ (by omega) (by omega)]; omega, fun x a b => by rw [ht' _ (by omega) (by omega)]; exact ht _ (by omega) (by omega)⟩
theorem tl_at {tf : Int → Int} {c : Int} : ∀ (n : Nat) (i m f : Int), sk_fd (fun l (p : Int × Int) => (sk_max p.1 (tf (c * 27 + l)), p.2 - tf (c * 27 + l))) i n (m, f) = (sk_fd (fun l m => sk_max m (tf (c * 27 + l))) i n m, f - sk_sm (fun l => tf (c * 27 + l)) i n)
  | 0, i, m, f => by simp [sk_fd, sk_sm]
  | n + 1, i, m, f => by
    simp only [sk_fd, sk_sm]
    rw [tl_at n (i + 1)]
    congr 1
    omega
theorem tm_eq {cells : Int} {p : Int × (Int → Int)} {f : Int → Int} {c : Int} (h : tr cells p f) (c0 : 0 ≤ c) (c1 : c < cells) : x_tm p.2 p.1 c = mo_tm f c ∧ mo_tm f c ≤ p.1 := by
  obtain ⟨a1, a2, a3⟩ := h c c0 c1
  constructor
  · unfold x_tm x_tl mo_tm
    rw [tl_at]
    (try simp only [])
    rw [sk_fd_congr (f' := fun l m => sk_max m (f (27 * c + l))) 26 0 0 (fun j s j0 j1 => by (try simp only []); rw [a3 j j0 (by omega)]), sk_sm_congr (f' := fun l => f (27 * c + l)) 26 0 (fun j j0 j1 => a3 j j0 (by omega)), sk_fd_snoc (f := fun l m => sk_max m (f (27 * c + l))) 26 0 0]
    have a1 : sk_sm (fun x => f (27 * c + x)) 0 26 + f (27 * c + 26) = p.1 := by rw [← a1, sk_sm_snoc 26 0]; rfl
    have e9 : p.1 - sk_sm (fun x => f (27 * c + x)) 0 26 = f (27 * c + 26) := by omega
    rw [e9]
    rfl
  · have := mx_le (g := fun k => f (27 * c + k)) 27 0 0 (fun j j0 j1 => a2 j j0 (by omega)) (by omega)
    unfold mo_tm
    omega
theorem tb_eq {cells : Int} {p : Int × (Int → Int)} {f : Int → Int} (h : tr cells p f) : (sk_fd (x_tc p.2 p.1) 0 cells.toNat (p.1 + 1, -1)).2 = (sk_fd (mo_tb f) 0 cells.toNat (-1, 0)).1 := by
  have := sk_fd_rel (Rl := fun (s s' : Int × Int) => s.2 = s'.1 ∧ ((s'.1 = -1 ∧ s.1 = p.1 + 1) ∨ (s'.1 ≠ -1 ∧ s.1 = s'.2))) (f := x_tc p.2 p.1) (g := mo_tb f) cells.toNat 0 (p.1 + 1, -1) (-1, 0) (fun c s s' c0 c1 hr => ?_) ⟨rfl, Or.inl ⟨rfl, rfl⟩⟩
  · exact this.1
  · obtain ⟨e1, e2⟩ := tm_eq h c0 (by omega)
    unfold x_tc mo_tb
    rw [e1]
    by_cases q : s'.1 = -1 ∨ mo_tm f c < s'.2
    · rw [if_pos q, if_pos (by rcases hr.2 with z | z <;> omega)]
      exact ⟨rfl, Or.inr ⟨by (try simp only []); omega, rfl⟩⟩
    · rw [if_neg q, if_neg (by rcases hr.2 with z | z <;> omega)]
      exact hr
theorem nfi_0 {p v : Int → Int} : ∀ (n : Nat) (x : Int), (nfi p v 0 n x 0 = .inr 0 ∧ ∀ j, x ≤ j → j < x + n → p j ≠ 1) ∨ ∃ j, x ≤ j ∧ j < x + n ∧ p j = 1 ∧ nfi p v 0 n x 0 = .inl (v j)
  | 0, x => Or.inl ⟨rfl, fun j a b => by push_cast at b; omega⟩
  | n + 1, x => by
    simp only [nfi]
    by_cases e : p x = 1
    · rw [if_pos e, if_pos trivial]
      exact Or.inr ⟨x, by omega, by push_cast; omega, e, rfl⟩
    · rw [if_neg e]
      rcases nfi_0 (p := p) (v := v) n (x + 1) with ⟨a, b⟩ | ⟨j, j0, j1, j2, j3⟩
      · refine Or.inl ⟨a, fun j p q => ?_⟩
        by_cases z : j = x
        · rw [z]; exact e
        · exact b j (by omega) (by push_cast at q; omega)
      · exact Or.inr ⟨j, by omega, by push_cast; omega, j2, j3⟩
theorem nfo_0 {p v : Int → Int → Int} {m : Nat} : ∀ (n : Nat) (x : Int), (nfo p v 0 m n x 0 = .inr 0 ∧ ∀ a, x ≤ a → a < x + n → ∀ j : Int, 0 ≤ j → j < m → p a j ≠ 1) ∨ ∃ a j : Int, x ≤ a ∧ a < x + n ∧ 0 ≤ j ∧ j < m ∧ p a j = 1 ∧ nfo p v 0 m n x 0 = .inl (v a j)
  | 0, x => Or.inl ⟨rfl, fun j a b => by push_cast at b; omega⟩
  | n + 1, x => by
    simp only [nfo]
    rcases nfi_0 (p := p x) (v := v x) m 0 with ⟨a, b⟩ | ⟨j, j0, j1, j2, j3⟩
    · rw [a]
      (try simp only [])
      rcases nfo_0 (p := p) (v := v) (m := m) n (x + 1) with ⟨a', b'⟩ | ⟨k, j, k0, k1, j0, j1, j2, j3⟩
      · refine Or.inl ⟨a', fun k p q => ?_⟩
        by_cases z : k = x
        · rw [z]; exact fun j j0 j1 => b j j0 (by omega)
        · exact b' k (by omega) (by push_cast at q; omega)
      · exact Or.inr ⟨k, j, by omega, by push_cast; omega, j0, j1, j2, j3⟩
    · rw [j3]
      exact Or.inr ⟨x, j, by omega, by push_cast; omega, j0, by omega, j2, rfl⟩
theorem ak_up {n : Nat} {i : Int} {p : Int × (Int → Int)} : p.1 ≤ (sk_fd (x_ak2 R nc nle ni nm sg ln pl ss lg size lines longest w) i n p).1 :=
  sk_fd_inv (I := fun (s : Int × (Int → Int)) => p.1 ≤ s.1) n i p (fun j s _ _ hi => by
    unfold x_ak2
    split
    · (try simp only []); omega
    · exact hi) (by omega)
theorem ak_up1 {n : Nat} {i : Int} {p : Int × (Int → Int)} : p.1 ≤ (sk_fd (x_ak1 R nc nle ni nm sg ln pl ss lg size lines longest) i n p).1 :=
  sk_fd_inv (I := fun (s : Int × (Int → Int)) => p.1 ≤ s.1) n i p (fun j s _ _ hi => by
    have := ak_up (R := R) (nc := nc) (nle := nle) (ni := ni) (nm := nm) (sg := sg) (ln := ln) (pl := pl) (ss := ss) (lg := lg) (size := size) (lines := lines) (longest := longest) (w := j) (n := (4 * (R 0 * R 1)).toNat) (i := 0) (p := s)
    unfold x_ak1
    omega) (by omega)
theorem ak_has2 {s : Int} (q : x_asn R (sg w) (ss w) (lg w) (lines w) (longest w) s nc nle ni nm = 1) : ∀ (n : Nat) (i : Int) (p : Int × (Int → Int)), i ≤ s → s < i + n → p.1 < (sk_fd (x_ak2 R nc nle ni nm sg ln pl ss lg size lines longest w) i n p).1
  | 0, i, p, a, b => by push_cast at b; omega
  | n + 1, i, p, a, b => by
    simp only [sk_fd]
    by_cases e : s = i
    · subst e
      have := ak_up (R := R) (nc := nc) (nle := nle) (ni := ni) (nm := nm) (sg := sg) (ln := ln) (pl := pl) (ss := ss) (lg := lg) (size := size) (lines := lines) (longest := longest) (w := w) (n := n) (i := s + 1) (p := x_ak2 R nc nle ni nm sg ln pl ss lg size lines longest w s p)
      have e2 : (x_ak2 R nc nle ni nm sg ln pl ss lg size lines longest w s p).1 = p.1 + 1 := by unfold x_ak2; rw [if_pos q]
      omega
    · have := ak_has2 q n (i + 1) (x_ak2 R nc nle ni nm sg ln pl ss lg size lines longest w i p) (by omega) (by push_cast at b; omega)
      have e2 : p.1 ≤ (x_ak2 R nc nle ni nm sg ln pl ss lg size lines longest w i p).1 := by unfold x_ak2; split <;> omega
      omega
theorem ak_has {s : Int} (s0 : 0 ≤ s) (s1 : s < (4 * (R 0 * R 1)).toNat) (q : x_asn R (sg w) (ss w) (lg w) (lines w) (longest w) s nc nle ni nm = 1) : ∀ (n : Nat) (i : Int) (p : Int × (Int → Int)), i ≤ w → w < i + n → p.1 < (sk_fd (x_ak1 R nc nle ni nm sg ln pl ss lg size lines longest) i n p).1
  | 0, i, p, a, b => by push_cast at b; omega
  | n + 1, i, p, a, b => by
    simp only [sk_fd]
    by_cases e : w = i
    · subst e
      have := ak_up1 (R := R) (nc := nc) (nle := nle) (ni := ni) (nm := nm) (sg := sg) (ln := ln) (pl := pl) (ss := ss) (lg := lg) (size := size) (lines := lines) (longest := longest) (n := n) (i := w + 1) (p := x_ak1 R nc nle ni nm sg ln pl ss lg size lines longest w p)
      have e2 : p.1 < (x_ak1 R nc nle ni nm sg ln pl ss lg size lines longest w p).1 := ak_has2 q _ 0 p s0 (by omega)
      omega
    · have := ak_has s0 s1 q n (i + 1) (x_ak1 R nc nle ni nm sg ln pl ss lg size lines longest i p) (by omega) (by push_cast at b; omega)
      have e2 : p.1 ≤ (x_ak1 R nc nle ni nm sg ln pl ss lg size lines longest i p).1 := ak_up
      omega
theorem ask_eq {t t' : Int → Int} (h : bw S Y R wn sg ln pl ss lg size lines longest) (hn : bn S Y nc nle ni nm) (ht : ∀ j, 0 ≤ j → j < 1080 → t j = 0) (ht' : ∀ j, 0 ≤ j → j < 1080 → t' j = 0) : (if (x_ak R nc nle ni nm wn sg ln pl ss lg size lines longest t).1 = 0 then -1 else (sk_fd (x_tc (x_ak R nc nle ni nm wn sg ln pl ss lg size lines longest t).2 (x_ak R nc nle ni nm wn sg ln pl ss lg size lines longest t).1) 0 (R 0 * R 1).toNat ((x_ak R nc nle ni nm wn sg ln pl ss lg size lines longest t).1 + 1, -1)).2) = (if S 23 ≠ 0 ∧ mo_fts S Y 0 ≠ -1 then mo_ask S Y t' else -1) := by
  have tr9 := tr_all h hn ht ht'
  have cl := ru_cells h.2.1
  have wb := h.2.2.2.2.1
  have key : (x_ak R nc nle ni nm wn sg ln pl ss lg size lines longest t).1 = 0 ↔ ¬ (S 23 ≠ 0 ∧ mo_fts S Y 0 ≠ -1) := by
    rw [← fts_eq h hn, h.2.2.1]
    unfold x_fts
    rcases nfo_0 (p := fun w s => x_asn R (sg w) (ss w) (lg w) (lines w) (longest w) s nc nle ni nm) (v := fun w s => 1000 * w + s) (m := (4 * (R 0 * R 1)).toNat) wn.toNat 0 with ⟨a, b⟩ | ⟨w, s, w0, w1, s0, s1, q, e⟩
    · rw [a]
      have e2 : (x_ak R nc nle ni nm wn sg ln pl ss lg size lines longest t).1 = 0 := by
        unfold x_ak
        exact sk_fd_inv (I := fun (s : Int × (Int → Int)) => s.1 = 0) _ _ _ (fun w s w0 w1 hi => by
          unfold x_ak1
          exact sk_fd_inv (I := fun (s : Int × (Int → Int)) => s.1 = 0) _ _ _ (fun j s j0 j1 hi => by
            unfold x_ak2
            rw [if_neg (b w w0 w1 j j0 (by omega))]
            exact hi) hi) rfl
      exact ⟨fun _ q => q.2 rfl, fun _ => e2⟩
    · rw [e]
      have e2 := ak_has (w := w) (ln := ln) (pl := pl) (size := size) s0 s1 q wn.toNat 0 (0, t) w0 w1
      have e3 : (x_ak R nc nle ni nm wn sg ln pl ss lg size lines longest t).1 ≠ 0 := by
        unfold x_ak
        (try simp only [] at e2)
        omega
      refine ⟨fun q => absurd q e3, fun q => absurd ⟨?_, ?_⟩ q⟩
      · omega
      · show 1000 * w + s ≠ -1
        omega
  by_cases z : (x_ak R nc nle ni nm wn sg ln pl ss lg size lines longest t).1 = 0
  · rw [if_pos z, if_neg (key.mp z)]
  · rw [if_neg z, if_pos (by
      by_cases y : S 23 ≠ 0 ∧ mo_fts S Y 0 ≠ -1
      · exact y
      · exact absurd (key.mpr y) z)]
    unfold mo_ask
    rw [h.2.2.1]
    exact tb_eq tr9
end RTELL
