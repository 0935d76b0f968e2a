/-! ===== how long a letter holds: amounts against scraping by ones ===== -/
/-- from the top: some layer of the letter is still legible behind scraping by n -/
def AgP (t s : Int → Int) (leg x : Int) : Nat → Int → Prop
  | 0, _ => False
  | h + 1, n => AgP t s leg x h (n - s h) ∨ (t h = x ∧ leg ≤ s h ∧ n < s h - leg + 1)
theorem AgP_c {t s t' s' : Int → Int} {leg x : Int} : ∀ (h : Nat) (n : Int), (∀ k : Nat, k < h → t k = t' k ∧ s k = s' k) → (AgP t s leg x h n ↔ AgP t' s' leg x h n)
  | 0, _, _ => Iff.rfl
  | h + 1, n, e => by
    simp only [AgP]
    rw [(e h (by omega)).1, (e h (by omega)).2, AgP_c h _ (fun k hk => e k (by omega))]
theorem AgP_le {t s : Int → Int} {leg x : Int} : ∀ (h : Nat) (n : Int), n ≤ 0 → (∀ k : Nat, k < h → 0 ≤ s k) → (AgP t s leg x h n ↔ ∃ k : Nat, k < h ∧ t k = x ∧ leg ≤ s k)
  | 0, n, _, _ => by simp [AgP]
  | h + 1, n, n0, hs => by
    simp only [AgP]
    rw [AgP_le h _ (by have := hs h (by omega); omega) (fun k hk => hs k (by omega))]
    constructor
    · rintro (⟨k, k1, k2⟩ | ⟨a, b, c⟩)
      · exact ⟨k, by omega, k2⟩
      · exact ⟨h, by omega, a, b⟩
    · rintro ⟨k, k1, k2, k3⟩
      by_cases e : k = h
      · subst e; exact Or.inr ⟨k2, k3, by omega⟩
      · exact Or.inl ⟨k, by omega, k2, k3⟩
theorem a_hd_AgP {t s : Int → Int} {leg x : Int} (g1 : 1 ≤ leg) : ∀ (h : Nat) (am ab n : Int), am ≤ ab → (∀ k : Nat, k < h → 0 ≤ s k) → (n < a_hd t s leg x h am ab ↔ AgP t s leg x h (n - ab) ∨ n < am)
  | 0, am, ab, n, _, _ => by simp [a_hd, AgP]
  | h + 1, am, ab, n, ha, hs => by
    have h0 := hs h (by omega)
    simp only [a_hd, AgP]
    by_cases q : leg ≤ s h ∧ t h = x
    · rw [if_pos q, a_hd_AgP g1 h _ _ n (by omega) (fun k hk => hs k (by omega)), show n - (ab + s h) = n - ab - s h by omega]
      constructor
      · rintro (a | a)
        · exact Or.inl (Or.inl a)
        · exact Or.inl (Or.inr ⟨q.2, q.1, by omega⟩)
      · rintro ((a | ⟨-, -, a⟩) | a)
        · exact Or.inl a
        · exact Or.inr (by omega)
        · exact Or.inr (by omega)
    · rw [if_neg q, a_hd_AgP g1 h _ _ n (by omega) (fun k hk => hs k (by omega)), show n - (ab + s h) = n - ab - s h by omega]
      constructor
      · rintro (a | a)
        · exact Or.inl (Or.inl a)
        · exact Or.inr a
      · rintro ((a | ⟨a, b, -⟩) | a)
        · exact Or.inl a
        · exact absurd ⟨b, a⟩ q
        · exact Or.inr a
/-- strengths behind scraping -/
def scs (s : Int → Int) (r : Int × Int) : Int → Int := fun i => if i = r.1 - 1 then r.2 else s i
theorem a_sc_AgP {t s : Int → Int} {leg x : Int} (g1 : 1 ≤ leg) : ∀ (h : Nat) (b a : Int), 0 ≤ b → 0 ≤ a → (∀ k : Nat, k < h → 1 ≤ s k) → (AgP t (scs s (a_sc s h b)) leg x (a_sc s h b).1.toNat a ↔ AgP t s leg x h (a + b))
  | 0, b, a, _, _, _ => by simp [a_sc, AgP]
  | h + 1, b, a, b0, a0, hs => by
    have h0 := hs h (by omega)
    by_cases e1 : b ≤ 0
    · have eb : b = 0 := by omega
      have ea : a_sc s (h + 1) b = ((h : Int) + 1, s h) := by simp only [a_sc]; rw [if_pos e1]
      rw [ea, eb, Int.add_zero]
      (try simp only [])
      rw [show ((h : Int) + 1).toNat = h + 1 by omega]
      refine AgP_c _ _ (fun k hk => ⟨rfl, ?_⟩)
      unfold scs
      (try simp only [])
      by_cases z : (k : Int) = (h : Int) + 1 - 1
      · rw [if_pos z, show (k : Int) = h by omega]
      · rw [if_neg z]
    · by_cases e2 : b < s h
      · have ea : a_sc s (h + 1) b = ((h : Int) + 1, s h - b) := by simp only [a_sc]; rw [if_neg e1, if_pos e2]
        rw [ea]
        (try simp only [])
        rw [show ((h : Int) + 1).toNat = h + 1 by omega]
        simp only [AgP]
        have es : scs s ((h : Int) + 1, s h - b) h = s h - b := by unfold scs; (try simp only []); rw [if_pos (by omega)]
        rw [es]
        have ec := AgP_c (t := t) (t' := t) (s := scs s ((h : Int) + 1, s h - b)) (s' := s) (leg := leg) (x := x) h (a - (s h - b)) (fun k hk => ⟨rfl, by unfold scs; (try simp only []); rw [if_neg (by omega)]⟩)
        rw [ec, show a - (s h - b) = a + b - s h by omega]
        constructor
        · rintro (z | ⟨z1, z2, z3⟩)
          · exact Or.inl z
          · exact Or.inr ⟨z1, by omega, by omega⟩
        · rintro (z | ⟨z1, z2, z3⟩)
          · exact Or.inl z
          · exact Or.inr ⟨z1, by omega, by omega⟩
      · have ea : a_sc s (h + 1) b = a_sc s h (b - s h) := by simp only [a_sc]; rw [if_neg e1, if_neg e2]
        rw [ea, a_sc_AgP g1 h (b - s h) a (by omega) a0 (fun k hk => hs k (by omega))]
        simp only [AgP]
        rw [show a + (b - s h) = a + b - s h by omega]
        constructor
        · exact Or.inl
        · rintro (z | ⟨z1, z2, z3⟩)
          · exact z
          · exfalso; omega
theorem ver_0 {t s : Int → Int} {leg x : Int} : ∀ (n : Nat) (i v : Int), v ≠ 0 → (sk_fd (a_vd t s leg x) i n v = 0 ↔ ∃ k, i ≤ k ∧ k < i + n ∧ t k = x ∧ leg ≤ s k)
  | 0, i, v, hv => by
    simp only [sk_fd]
    exact ⟨fun h => absurd h hv, fun ⟨k, a, b, _⟩ => by push_cast at b; omega⟩
  | n + 1, i, v, hv => by
    simp only [sk_fd]
    by_cases q : leg ≤ s i ∧ t i = x
    · have e : a_vd t s leg x i v = 0 := by unfold a_vd; rw [if_pos ⟨q.1, hv⟩, if_pos q.2]
      rw [e, a_vd_0]
      exact ⟨fun _ => ⟨i, by omega, by push_cast; omega, q.2, q.1⟩, fun _ => rfl⟩
    · have e : a_vd t s leg x i v ≠ 0 := by
        unfold a_vd
        by_cases z : leg ≤ s i
        · rw [if_pos ⟨z, hv⟩, if_neg (fun y => q ⟨z, y⟩)]; omega
        · rw [if_neg (fun y => z y.1)]; exact hv
      rw [ver_0 n (i + 1) _ e]
      constructor
      · rintro ⟨k, a, b, c⟩; exact ⟨k, by omega, by push_cast; omega, c⟩
      · rintro ⟨k, a, b, c, d⟩
        by_cases z : k = i
        · subst z; exact absurd ⟨d, c⟩ q
        · exact ⟨k, by omega, by push_cast at b; omega, c, d⟩
section RHOLD
variable {cells hands : Int} {ly hs nw : Int → Int} {c leg x : Int}
/-- a cell's letters as the class has them -/
def AgC (ly hs : Int → Int) (leg x c n : Int) : Prop := AgP (a_t6 ly c) (a_s6 ly c) leg x (hs c).toNat n
theorem x_hl_AgC (g1 : 1 ≤ leg) (n : Int) (n0 : 0 ≤ n) : n < x_hl ly hs leg x c ↔ AgC ly hs leg x c n := by
  unfold x_hl a_hold AgC
  rw [a_hd_AgP g1 _ 0 0 n (by omega) (fun k _ => (a_s6_in ly c k).1), Int.sub_zero]
  exact ⟨fun h => h.elim (fun z => z) (fun z => by omega), Or.inl⟩
theorem x_ver_AgC (h0 : 0 ≤ hs c) : x_ver ly hs leg x c = 0 ↔ AgC ly hs leg x c 0 := by
  unfold x_ver a_ver AgC
  rw [ver_0 _ _ _ (by omega), AgP_le _ 0 (by omega) (fun k _ => (a_s6_in ly c k).1)]
  constructor
  · rintro ⟨k, a, b, e⟩
    refine ⟨k.toNat, by omega, ?_⟩
    rw [show ((k.toNat : Nat) : Int) = k by omega]
    exact e
  · rintro ⟨k, a, e⟩
    exact ⟨k, by omega, by omega, e⟩
theorem AgC_sc {n a acc : Int} (g1 : 1 ≤ leg) (h0 : 0 ≤ hs c) (h6 : hs c ≤ 6) (hs1 : ∀ i, 0 ≤ i → i < hs c → 1 ≤ a_s6 ly c i ∧ a_s6 ly c i ≤ 9) (n0 : 0 ≤ n) (a0 : 0 ≤ a) : AgC (x_sc n c (ly, hs, acc)).1 (x_sc n c (ly, hs, acc)).2.1 leg x c a ↔ AgC ly hs leg x c (a + n) := by
  have k := a_sc_AgP (t := a_t6 ly c) (s := a_s6 ly c) (leg := leg) (x := x) g1 (hs c).toNat n a n0 a0 (fun k hk => (hs1 k (by omega) (by omega)).1)
  unfold AgC
  rw [← k]
  have a1 := a_sc_in (a_s6 ly c) (fun i _ => a_s6_in ly c i) (hs c).toNat n
  have eh : (x_sc n c (ly, hs, acc)).2.1 c = (a_sc (a_s6 ly c) (hs c).toNat n).1 := by unfold x_sc; exact sk_up_self _ _ _
  rw [eh]
  refine AgP_c _ _ (fun i hi => ?_)
  have el : (x_sc n c (ly, hs, acc)).1 = a_scl ly c (a_sc (a_s6 ly c) (hs c).toNat n) := rfl
  rw [el]
  generalize a_sc (a_s6 ly c) (hs c).toNat n = r at *
  have sl : a_scl ly c r = sk_up ly (6 * c + (r.1 - 1)) (ly (6 * c + (r.1 - 1)) - ly (6 * c + (r.1 - 1)) % 16 + r.2) := by unfold a_scl; rw [if_neg (by omega)]
  by_cases z : (i : Int) = r.1 - 1
  · have e : a_scl ly c r (6 * c + i) = ly (6 * c + i) - ly (6 * c + i) % 16 + r.2 := by rw [sl, z, sk_up_self]
    have cw := code_w (q := ly (6 * c + i)) (v := r.2) (by omega) (by omega)
    refine ⟨?_, ?_⟩
    · unfold a_t6; rw [e]; exact cw.1
    · unfold scs
      rw [if_pos z]
      show a_scl ly c r (6 * c + i) % 16 = r.2
      rw [e]; exact cw.2.2
  · have e : a_scl ly c r (6 * c + i) = ly (6 * c + i) := by rw [sl, sk_up_ne _ _ (by omega)]
    refine ⟨?_, ?_⟩
    · unfold a_t6; rw [e]
    · unfold scs
      rw [if_neg z]
      show a_scl ly c r (6 * c + i) % 16 = ly (6 * c + i) % 16
      rw [e]
theorem AgC_c {ly' hs' : Int → Int} {n : Int} (e1 : hs' c = hs c) (h6 : hs c ≤ 6) (e2 : ∀ i, 0 ≤ i → i < 6 → ly' (6 * c + i) = ly (6 * c + i)) : AgC ly' hs' leg x c n ↔ AgC ly hs leg x c n := by
  unfold AgC
  rw [e1]
  refine AgP_c _ _ (fun k hk => ?_)
  have := e2 k (by omega) (by omega)
  exact ⟨by unfold a_t6; rw [this], by unfold a_s6; rw [this]⟩
/-- a row scraped by ones, n times -/
def xg (ly hs : Int → Int) (W row : Int) : Nat → (Int → Int) × (Int → Int) × Int
  | 0 => (ly, hs, 0)
  | n + 1 => sk_fd (x_sc 1) (row * W) W.toNat ((xg ly hs W row n).1, (xg ly hs W row n).2.1, 0)
theorem pr_gn {W row : Int} (h : pr cells hands ly hs nw) (r0 : 0 ≤ row * W) (r1 : row * W + W ≤ 40) : ∀ n, pr cells hands (xg ly hs W row n).1 (xg ly hs W row n).2.1 (mo_gn nw W row n)
  | 0 => h
  | n + 1 => by
    have k := pr_gn h r0 r1 n
    have r := (pr_row (n := 1) k (by omega) r0 r1).1
    simp only [xg, mo_gn]
    unfold mo_gs
    exact r
theorem AgC_row {W a acc : Int} (g1 : 1 ≤ leg) : ∀ (k : Nat) (i : Int) (s : (Int → Int) × (Int → Int) × Int), 0 ≤ i → i + k ≤ 40 → 0 ≤ c → c < 40 → (∀ c, 0 ≤ c → c < 40 → 0 ≤ s.2.1 c ∧ s.2.1 c ≤ 6 ∧ ∀ j, 0 ≤ j → j < s.2.1 c → 1 ≤ a_s6 s.1 c j ∧ a_s6 s.1 c j ≤ 9) → 0 ≤ a → (AgC (sk_fd (x_sc 1) i k s).1 (sk_fd (x_sc 1) i k s).2.1 leg x c a ↔ AgC s.1 s.2.1 leg x c (if i ≤ c ∧ c < i + k then a + 1 else a))
  | 0, i, s, _, _, _, _, _, _ => by simp only [sk_fd]; rw [if_neg (by push_cast; omega)]
  | k + 1, i, s, i0, i1, c0, c1, hg, a0 => by
    push_cast at i1
    simp only [sk_fd]
    have hi := hg i i0 (by omega)
    have e0 : x_sc 1 i s = x_sc 1 i (s.1, s.2.1, s.2.2) := rfl
    have hp : prc 4 s.1 s.2.1 s.1 i → True := fun _ => trivial
    have hg2 : ∀ c, 0 ≤ c → c < 40 → 0 ≤ (x_sc 1 i s).2.1 c ∧ (x_sc 1 i s).2.1 c ≤ 6 ∧ ∀ j, 0 ≤ j → j < (x_sc 1 i s).2.1 c → 1 ≤ a_s6 (x_sc 1 i s).1 c j ∧ a_s6 (x_sc 1 i s).1 c j ≤ 9 := by
      intro c' a' b'
      by_cases e : c' = i
      · subst e
        have ih := a_sc_in (a_s6 s.1 c') (fun i _ => a_s6_in s.1 c' i) (s.2.1 c').toNat 1
        obtain ⟨⟨q1, q2, q3⟩, -, -⟩ := m_st_sc c' (a_s6 s.1 c') (s.2.1 c').toNat 1 (fun j => a_s6 s.1 c' ((j - 2 - 40) / 3 - 6 * c')) (by omega) (by omega) (fun k hk => ⟨by (try simp only []); congr 1; omega, (hi.2.2 k (by omega) (by omega)).1⟩)
        have eh : (x_sc 1 c' s).2.1 c' = (a_sc (a_s6 s.1 c') (s.2.1 c').toNat 1).1 := by unfold x_sc; exact sk_up_self _ _ _
        have el : (x_sc 1 c' s).1 = a_scl s.1 c' (a_sc (a_s6 s.1 c') (s.2.1 c').toNat 1) := rfl
        rw [eh, el]
        generalize a_sc (a_s6 s.1 c') (s.2.1 c').toNat 1 = r at *
        refine ⟨q1, by omega, fun j j0 j1 => ?_⟩
        have q3 := q3 (by omega)
        have sl : a_scl s.1 c' r = sk_up s.1 (6 * c' + (r.1 - 1)) (s.1 (6 * c' + (r.1 - 1)) - s.1 (6 * c' + (r.1 - 1)) % 16 + r.2) := by unfold a_scl; rw [if_neg (by omega)]
        have hj := hi.2.2 j j0 (by omega)
        have hr := hi.2.2 (r.1 - 1) (by omega) (by omega)
        by_cases z : j = r.1 - 1
        · have e : a_s6 (a_scl s.1 c' r) c' j = r.2 := by
            unfold a_s6
            rw [sl, z, sk_up_self]
            exact (code_w (by omega) (by omega)).2.2
          rw [e]; omega
        · have e : a_s6 (a_scl s.1 c' r) c' j = a_s6 s.1 c' j := by unfold a_s6; rw [sl, sk_up_ne _ _ (by omega)]
          rw [e]; exact hj
      · have eh : (x_sc 1 i s).2.1 c' = s.2.1 c' := by unfold x_sc; exact sk_up_ne _ _ e
        have el : ∀ j, 0 ≤ j → j < 6 → (x_sc 1 i s).1 (6 * c' + j) = s.1 (6 * c' + j) := fun j j0 j1 => x_sc_out (ly := s.1) (hs := s.2.1) (acc := s.2.2) (by omega) hi.2.1
        have hc := hg c' a' b'
        rw [eh]
        refine ⟨hc.1, hc.2.1, fun j j0 j1 => ?_⟩
        have : a_s6 (x_sc 1 i s).1 c' j = a_s6 s.1 c' j := by unfold a_s6; rw [el j j0 (by omega)]
        rw [this]; exact hc.2.2 j j0 j1
    rw [AgC_row (W := W) (acc := acc) g1 k (i + 1) (x_sc 1 i s) (by omega) (by omega) c0 c1 hg2 a0]
    by_cases e : c = i
    · subst e
      rw [if_neg (by omega), if_pos (by push_cast; omega), e0, AgC_sc g1 hi.1 hi.2.1 hi.2.2 (by omega) a0]
    · have hc := hg c c0 c1
      have ec := AgC_c (ly := s.1) (hs := s.2.1) (ly' := (x_sc 1 i s).1) (hs' := (x_sc 1 i s).2.1) (leg := leg) (x := x) (c := c) (n := if i + 1 ≤ c ∧ c < i + 1 + k then a + 1 else a) (by unfold x_sc; exact sk_up_ne _ _ e) hc.2.1 (fun j j0 j1 => x_sc_out (ly := s.1) (hs := s.2.1) (acc := s.2.2) (by omega) hi.2.1)
      rw [ec]
      push_cast
      by_cases z : i + 1 ≤ c ∧ c < i + 1 + k
      · rw [if_pos z, if_pos (by omega)]
      · rw [if_neg z, if_neg (by omega)]
theorem AgC_gn {W row : Int} (h : pr cells hands ly hs nw) (g1 : 1 ≤ leg) (r0 : 0 ≤ row * W) (r1 : row * W + W ≤ 40) (c0 : row * W ≤ c) (c1 : c < row * W + W) : ∀ (n : Nat) (a : Int), 0 ≤ a → (AgC (xg ly hs W row n).1 (xg ly hs W row n).2.1 leg x c a ↔ AgC ly hs leg x c (a + n))
  | 0, a, _ => by simp only [xg]; rw [show a + ((0 : Nat) : Int) = a by omega]
  | n + 1, a, a0 => by
    have p := pr_gn h r0 r1 n
    simp only [xg]
    rw [AgC_row (W := W) (acc := 0) g1 W.toNat (row * W) ((xg ly hs W row n).1, (xg ly hs W row n).2.1, 0) r0 (by omega) (by omega) (by omega) (fun c a b => by
      have k := p.1 c a b
      exact ⟨k.2.1, k.2.2.1, fun j j0 j1 => (k.2.2.2 j j0 j1).2.2.2.2.2⟩) a0, if_pos (by omega)]
    rw [AgC_gn h g1 r0 r1 c0 c1 n (a + 1) (by omega)]
    rw [show a + 1 + (n : Int) = a + ((n + 1 : Nat) : Int) by push_cast; omega]
/-- behind n scrapings a letter agrees just if its amount is greater -/
theorem ver_gn {W row : Int} (h : pr cells hands ly hs nw) (g1 : 1 ≤ leg) (r0 : 0 ≤ row * W) (r1 : row * W + W ≤ 40) (c0 : row * W ≤ c) (c1 : c < row * W + W) (n : Nat) : a_ver (mt (mo_gn nw W row n) c) (ms (mo_gn nw W row n) c) leg x (mo_gn nw W row n c) = 0 ↔ (n : Int) < x_hl ly hs leg x c := by
  have p := (pr_gn h r0 r1 n).1 c (by omega) (by omega)
  rw [pr_ver p, x_ver_AgC p.2.1, AgC_gn h g1 r0 r1 c0 c1 n 0 (by omega), x_hl_AgC g1 n (by omega), Int.zero_add]
end RHOLD
