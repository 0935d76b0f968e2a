/-! ===== what is asked: odds, places, games, rests ===== -/
theorem part_in {p c : Int} (p0 : 0 ≤ p) (c0 : 0 ≤ c) (c1 : c ≤ 100) : 0 ≤ p * c / 100 ∧ p * c / 100 ≤ p := by
  have h : 0 ≤ p * c := Int.mul_nonneg p0 c0
  have h2 : p * c ≤ p * 100 := Int.mul_le_mul_of_nonneg_left c1 p0
  omega
theorem m_of_all {ch v : Int} (c0 : 0 ≤ ch) (c1 : ch ≤ 100) : ∀ (n : Nat) (rt pt : Int), v ≤ rt → 0 ≤ pt → m_of ch v n rt pt = pt
  | 0, rt, pt, h, p0 => by
    simp only [m_of]
    by_cases z : pt = 0
    · rw [if_pos z, z]
    · rw [if_neg z, if_pos h]
  | n + 1, rt, pt, h, p0 => by
    simp only [m_of]
    have p := part_in p0 c0 c1
    by_cases z : pt = 0
    · rw [if_pos z, z]
    · rw [if_neg z, m_of_all c0 c1 n rt _ h p.1, m_of_all c0 c1 n (rt + 1) _ (by omega) (by omega)]
      omega
theorem m_of_none {ch v : Int} : ∀ (n : Nat) (rt pt : Int), rt + n < v → m_of ch v n rt pt = 0
  | 0, rt, pt, h => by
    push_cast at h
    simp only [m_of]
    rw [if_neg (by omega : ¬ v ≤ rt)]
    split <;> rfl
  | n + 1, rt, pt, h => by
    push_cast at h
    simp only [m_of]
    rw [m_of_none n rt _ (by omega), m_of_none n (rt + 1) _ (by omega)]
    split <;> rfl
theorem odds_eq {ch v : Int} (c0 : 0 ≤ ch) (c1 : ch ≤ 100) : ∀ (n : Nat) (rt pt : Int), 0 ≤ pt → x_rr ch n (v - rt) pt = m_of ch v n rt pt
  | 0, rt, pt, p0 => by
    simp only [x_rr, m_of]
    by_cases z : pt = 0
    · rw [if_pos z, z]; split <;> rfl
    · rw [if_neg z]
      by_cases q : v ≤ rt
      · rw [if_pos q, if_pos (by omega)]
      · rw [if_neg q, if_neg (by omega)]
  | n + 1, rt, pt, p0 => by
    have p := part_in p0 c0 c1
    by_cases q : v ≤ rt
    · rw [m_of_all c0 c1 _ _ _ q p0]
      simp only [x_rr]
      rw [if_pos (by omega)]
    · by_cases q2 : rt + ((n + 1 : Nat) : Int) < v
      · rw [m_of_none _ _ _ q2]
        simp only [x_rr]
        rw [if_neg (by omega), if_pos (by omega)]
      · simp only [x_rr, m_of]
        rw [if_neg (by omega), if_neg (by omega)]
        by_cases z : pt = 0
        · rw [if_pos z, z, Int.zero_mul]
          have a := x_rr_in (ch := ch) c0 c1 n (v - rt) 0 (by omega)
          have b := x_rr_in (ch := ch) c0 c1 n (v - rt - 1) 0 (by omega)
          show x_rr ch n (v - rt) 0 + x_rr ch n (v - rt - 1) 0 = 0
          omega
        · rw [if_neg z, odds_eq c0 c1 n rt _ p.1, show v - rt - 1 = v - (rt + 1) by omega, odds_eq c0 c1 n (rt + 1) _ (by omega)]
section RASK
variable {cells hands : Int} {ly hs nw R ly' hs' : Int → Int} {leg : Int}
theorem pr_eq (c0 : 0 ≤ cells) (h : pr cells hands ly hs nw) (e : pg_eq ly hs ly' hs') : pr cells hands ly' hs' nw := ⟨fun c a b => prc_mv (h.1 c a b) (e.2 c a b) rfl (fun i i0 i1 => e.1 _ (by omega) (by omega)) (fun _ _ _ => rfl), fun c a b => by rw [e.2 c (by omega) b]; exact h.2 c a b⟩
theorem lr_eq {row : Int} (h : pr cells hands ly hs nw) (h2 : R 2 = leg) (r0 : 0 ≤ row * R 0) (r1 : row * R 0 + R 0 ≤ 40) : x_lr ly hs R row = mo_lr nw (R 0) leg row := by
  have e := sk_sm_shift (fun c => a_leg (a_s6 ly c) (R 2) (hs c)) (row * R 0) (R 0).toNat 0
  rw [Int.add_zero] at e
  unfold x_lr mo_lr
  rw [e]
  refine sk_sm_congr _ _ (fun i a b => ?_)
  (try simp only [])
  rw [h2, Int.mul_comm (R 0) row, pr_leg (h.1 (row * R 0 + i) (by omega) (by omega))]
theorem rdr_sm : ∀ (n : Nat) (i : Int) (s : Int × Int × Int), (sk_fd (x_rd ly hs leg) i n s).1 = s.1 + sk_sm (fun c => if a_shown (a_t6 ly c) (a_s6 ly c) leg (hs c) = 26 then 0 else 1) i n ∧ (sk_fd (x_rd ly hs leg) i n s).2.1 = s.2.1 + sk_sm (fun c => if a_lit (a_t6 ly c) (a_s6 ly c) leg (hs c) = 26 then 0 else 1) i n ∧ (sk_fd (x_rd ly hs leg) i n s).2.2 = s.2.2 + sk_sm (fun c => a_ben (a_t6 ly c) (a_s6 ly c) leg (hs c)) i n
  | 0, i, s => by simp [sk_fd, sk_sm]
  | n + 1, i, s => by
    obtain ⟨a, b, c⟩ := rdr_sm n (i + 1) (x_rd ly hs leg i s)
    simp only [sk_fd, sk_sm]
    rw [a, b, c]
    unfold x_rd
    (try simp only [])
    refine ⟨by omega, by omega, by omega⟩
theorem sm_mul3 (f : Int → Int) : ∀ (n : Nat) (i : Int), sk_sm (fun c => 3 * f c) i n = 3 * sk_sm f i n
  | 0, i => by simp [sk_sm]
  | n + 1, i => by simp only [sk_sm]; rw [sm_mul3 f n (i + 1)]; omega
theorem rd_eq {row : Int} (h : pr cells hands ly hs nw) (h2 : R 2 = leg) (r0 : 0 ≤ row * R 0) (r1 : row * R 0 + R 0 ≤ 40) : (x_rdr ly hs R row).1 = mo_rd nw (R 0) leg row 0 ∧ (x_rdr ly hs R row).2.1 - 1 = mo_rd nw (R 0) leg row 1 ∧ 3 * (x_rdr ly hs R row).2.2 - 2 = mo_rd nw (R 0) leg row 2 := by
  obtain ⟨a, b, c⟩ := rdr_sm (ly := ly) (hs := hs) (leg := R 2) (R 0).toNat (row * R 0) (0, 0, 0)
  have sh : ∀ f : Int → Int, sk_sm f (row * R 0) (R 0).toNat = sk_sm (fun i => f (row * R 0 + i)) 0 (R 0).toNat := fun f => by have := sk_sm_shift f (row * R 0) (R 0).toNat 0; rw [Int.add_zero] at this; exact this
  unfold x_rdr mo_rd
  rw [a, b, c, sh, sh, sh, h2]
  (try simp only [Int.zero_add])
  refine ⟨?_, ?_, ?_⟩
  · rw [Int.sub_zero]
    refine sk_sm_congr _ _ (fun i p q => ?_)
    (try simp only [])
    unfold mo_rc
    rw [if_pos rfl, Int.mul_comm (R 0) row, pr_shown (h.1 (row * R 0 + i) (by omega) (by omega))]
  · congr 1
    refine sk_sm_congr _ _ (fun i p q => ?_)
    (try simp only [])
    unfold mo_rc
    rw [if_neg (show ¬ ((1 : Int) = 0) by omega), if_pos (rfl : (1 : Int) = 1), Int.mul_comm (R 0) row, pr_lit (h.1 (row * R 0 + i) (by omega) (by omega))]
  · congr 1
    rw [← sm_mul3]
    refine sk_sm_congr _ _ (fun i p q => ?_)
    (try simp only [])
    unfold mo_rc
    rw [if_neg (show ¬ ((2 : Int) = 0) by omega), if_neg (show ¬ ((2 : Int) = 1) by omega), Int.mul_comm (R 0) row, pr_ben (h.1 (row * R 0 + i) (by omega) (by omega))]
theorem game_eq {row x : Int} {sf rf : Int → Int} (h : pr cells hands ly hs nw) (c0 : 0 ≤ cells) (h2 : R 2 = leg) (r0 : 0 ≤ row * R 0) (r1 : row * R 0 + R 0 ≤ 40) (x0 : 0 ≤ x) (hg : x_gm ly hs R row sf rf x) : (∀ y, sf x = mo_game nw (R 0) leg row x y 0) ∧ ∀ y, 0 ≤ y → y ≤ 2 → rf (3 * x + y) = mo_game nw (R 0) leg row x y 1 := by
  obtain ⟨ly', hs', e, g1, g2, g3, g4⟩ := hg
  have h' := pr_eq c0 h e
  have hs2 := (pr_row (n := x) h' x0 r0 r1).1
  have eg : pr cells hands (x_gs ly' hs' R row x).1 (x_gs ly' hs' R row x).2.1 (mo_gs nw (R 0) row x) := hs2
  have l1 := lr_eq h h2 r0 r1
  have l2 := lr_eq eg h2 r0 r1
  obtain ⟨d0, d1, d2⟩ := rd_eq eg h2 r0 r1
  refine ⟨fun y => ?_, fun y y0 y2 => ?_⟩
  · unfold mo_game
    rw [if_pos rfl, g1, l1, l2]
  · unfold mo_game
    rw [if_neg (by omega)]
    have : y = 0 ∨ y = 1 ∨ y = 2 := by omega
    rcases this with rfl | rfl | rfl
    · rw [Int.add_zero, g2, d0]
    · rw [g3, d1]
    · rw [g4, d2]
theorem rest_eq {row : Int} {sf rf : Int → Int} (hg : ∀ x, 0 ≤ x → x < 4 → (∀ y, sf x = mo_game nw (R 0) leg row x y 0) ∧ ∀ y, 0 ≤ y → y ≤ 2 → rf (3 * x + y) = mo_game nw (R 0) leg row x y 1) {x y : Int} (x0 : 0 ≤ x) (x1 : x < 4) (y0 : 0 ≤ y) (y2 : y ≤ 2) : x_ir sf rf x y = mo_rest nw (R 0) leg row x y := by
  have a := x_ir_01 sf rf x y
  have b := mo_rest_in nw (R 0) leg row x y
  have A1 := sk_ff_all (p := fun o => decide (sf x < sf o)) 4 0
  have A2 := sk_ff_all (p := fun o => decide (rf (3 * x + y) < rf (3 * x + o))) 3 0
  have A3 := sk_ff_all (p := fun k => decide (mo_game nw (R 0) leg row x y 0 < mo_game nw (R 0) leg row k y 0 ∨ (k < 3 ∧ mo_game nw (R 0) leg row x y 1 < mo_game nw (R 0) leg row x k 1))) 4 0
  have key : x_ir sf rf x y = 1 ↔ mo_rest nw (R 0) leg row x y = 1 := by
    unfold mo_rest
    constructor
    · intro h
      unfold x_ir at h
      by_cases e : sk_ff (fun o => decide (sf x < sf o)) (fun _ => (0 : Int)) 1 0 4 = 1
      · rw [if_pos e] at h
        have e' := A1.mp e
        have h' := A2.mp h
        refine A3.mpr (fun k k0 k1 => ?_)
        apply decide_eq_false
        have e1 := of_decide_eq_false (e' k k0 k1)
        rintro (q | ⟨q1, q2⟩)
        · rw [(hg x x0 x1).1 y, (hg k k0 (by omega)).1 y] at e1; omega
        · have h1 := of_decide_eq_false (h' k k0 (by omega))
          rw [(hg x x0 x1).2 y y0 y2, (hg x x0 x1).2 k k0 (by omega)] at h1
          omega
      · rw [if_neg e] at h; omega
    · intro h
      have h' := A3.mp h
      have e : sk_ff (fun o => decide (sf x < sf o)) (fun _ => (0 : Int)) 1 0 4 = 1 := A1.mpr (fun k k0 k1 => by
        apply decide_eq_false
        have e1 := of_decide_eq_false (h' k k0 k1)
        rw [(hg x x0 x1).1 y, (hg k k0 (by omega)).1 y]
        exact fun q => e1 (Or.inl q))
      unfold x_ir
      rw [if_pos e]
      exact A2.mpr (fun k k0 k1 => by
        apply decide_eq_false
        have e1 := of_decide_eq_false (h' k k0 (by omega))
        rw [(hg x x0 x1).2 y y0 y2, (hg x x0 x1).2 k k0 (by omega)]
        exact fun q => e1 (Or.inr ⟨by omega, q⟩))
  omega
theorem nfi_add (p v : Int → Int) (i : Int) : ∀ (a b : Nat) (x f : Int), nfi p v i (a + b) x f = (match nfi p v i a x f with | .inl z => .inl z | .inr f' => nfi p v i b (x + a) f')
  | 0, b, x, f => by simp [nfi]
  | a + 1, b, x, f => by
    rw [show a + 1 + b = (a + b) + 1 by omega]
    simp only [nfi]
    rw [nfi_add p v i a b (x + 1) (f + 1), nfi_add p v i a b (x + 1) f, show x + 1 + (a : Int) = x + ((a + 1 : Nat) : Int) by push_cast; omega]
    split
    · split <;> rfl
    · rfl
theorem nfi_sh (p v : Int → Int) (i a : Int) : ∀ (n : Nat) (x f : Int), nfi p v i n (a + x) f = nfi (fun j => p (a + j)) (fun j => v (a + j)) i n x f
  | 0, _, _ => rfl
  | n + 1, x, f => by
    simp only [nfi]
    rw [show a + x + 1 = a + (x + 1) by omega, nfi_sh p v i a n (x + 1) (f + 1), nfi_sh p v i a n (x + 1) f]
theorem nfo_nfi (P V : Int → Int → Int) (i : Int) : ∀ (n : Nat) (w f : Int), 0 ≤ w → nfo P V i 3 n w f = nfi (fun k => P (k / 3) (k % 3)) (fun k => V (k / 3) (k % 3)) i (3 * n) (3 * w) f
  | 0, _, _, _ => rfl
  | n + 1, w, f, w0 => by
    rw [show 3 * (n + 1) = 3 + 3 * n by omega, nfi_add]
    have e := nfi_sh (fun k => P (k / 3) (k % 3)) (fun k => V (k / 3) (k % 3)) i (3 * w) 3 0 f
    rw [Int.add_zero] at e
    have e2 : nfi (fun j => P ((3 * w + j) / 3) ((3 * w + j) % 3)) (fun j => V ((3 * w + j) / 3) ((3 * w + j) % 3)) i 3 0 f = nfi (P w) (V w) i 3 0 f := nfi_congr i 3 0 f (fun j a b => by
      (try simp only [])
      rw [show (3 * w + j) / 3 = w by omega, show (3 * w + j) % 3 = j by omega]
      exact ⟨rfl, rfl⟩)
    rw [e, e2]
    simp only [nfo]
    cases nfi (P w) (V w) i 3 0 f with
    | inl z => rfl
    | inr f' =>
      (try simp only [])
      rw [nfo_nfi P V i n (w + 1) f' (by omega), show 3 * w + ((3 : Nat) : Int) = 3 * (w + 1) by push_cast; omega]
theorem rests_eq {row i : Int} {sf rf : Int → Int} (hg : ∀ x, 0 ≤ x → x < 4 → (∀ y, sf x = mo_game nw (R 0) leg row x y 0) ∧ ∀ y, 0 ≤ y → y ≤ 2 → rf (3 * x + y) = mo_game nw (R 0) leg row x y 1) : nfo (x_ir sf rf) (fun x y => 10 * x + y) i 3 4 0 0 = nfi (fun k => mo_rest nw (R 0) leg row (k / 3) (k % 3)) (fun k => 10 * (k / 3) + k % 3) i 12 0 0 := by
  rw [nfo_nfi _ _ i 4 0 0 (by omega)]
  exact nfi_congr i 12 0 0 (fun j a b => ⟨rest_eq hg (by omega) (by omega) (by omega) (by omega), rfl⟩)
/-! the fullest -/
theorem am_c {f g : Int → Int} {n : Int} (h : ∀ k, 0 ≤ k → k < n → f k = g k) : x_am f n = x_am g n := by
  unfold x_am
  by_cases z : n ≤ 1
  · rw [show (n - 1).toNat = 0 by omega]; rfl
  · have key : ∀ (m : Nat) (i b : Int), 0 ≤ i → i + m ≤ n → 0 ≤ b → b < n → sk_fd (fun k b => if f b < f k then k else b) i m b = sk_fd (fun k b => if g b < g k then k else b) i m b := by
      intro m
      induction m with
      | zero => intro i b _ _ _ _; rfl
      | succ m ih =>
        intro i b i0 i1 b0 b1
        push_cast at i1
        simp only [sk_fd]
        rw [h b b0 b1, h i i0 (by omega)]
        split
        · exact ih (i + 1) i (by omega) (by omega) (by omega) (by omega)
        · exact ih (i + 1) b (by omega) (by omega) b0 b1
    exact key (n - 1).toNat 1 0 (by omega) (by omega) (by omega) (by omega)
theorem sm_const (a : Int) : ∀ (n : Nat) (i : Int), sk_sm (fun _ => a) i n = a * n
  | 0, i => by simp [sk_sm]
  | n + 1, i => by simp only [sk_sm]; rw [sm_const a n (i + 1)]; push_cast; rw [Int.mul_add]; omega
theorem sm_one {f : Int → Int} {k : Int} : ∀ (n : Nat) (i : Int), i ≤ k → k < i + n → sk_sm (fun c => if c = k then f c else 0) i n = f k
  | 0, i, a, b => by push_cast at b; omega
  | n + 1, i, a, b => by
    simp only [sk_sm]
    by_cases e : i = k
    · rw [if_pos e, e, sk_sm_zero n (k + 1) (fun j c d => by (try simp only []); rw [if_neg (by omega)])]; omega
    · rw [if_neg e, sm_one n (i + 1) (by omega) (by push_cast at b; omega)]; omega
theorem kd_2 (ly : Int → Int) (W c i : Int) : x_kd ly W 2 c i = c := rfl
theorem kd_3 (ly : Int → Int) (W c i : Int) : x_kd ly W 3 c i = c / W := rfl
theorem kd_4 (ly : Int → Int) (W c i : Int) : x_kd ly W 4 c i = a_h6 ly c i := rfl
theorem kd_5 (ly : Int → Int) (W c i : Int) : x_kd ly W 5 c i = a_t6 ly c i := rfl
theorem cn_2 {k : Int} (h : pr cells hands ly hs nw) (c1 : cells ≤ 40) (W : Int) (k0 : 0 ≤ k) (k1 : k < cells) : x_cn ly hs W 2 cells k = nw k := by
  unfold x_cn
  have e : sk_sm (fun c => sk_sm (fun i => if x_kd ly W 2 c i = k then (1 : Int) else 0) 0 (hs c).toNat) 0 cells.toNat = sk_sm (fun c => if c = k then hs c else 0) 0 cells.toNat := sk_sm_congr _ _ (fun c a b => by
    (try simp only [])
    have hc := h.1 c a (by omega)
    by_cases q : c = k
    · rw [if_pos q]
      have : sk_sm (fun i => if x_kd ly W 2 c i = k then (1 : Int) else 0) 0 (hs c).toNat = sk_sm (fun _ => (1 : Int)) 0 (hs c).toNat := sk_sm_congr _ _ (fun i _ _ => by (try simp only []); rw [kd_2, if_pos q])
      rw [this, sm_const]
      have := hc.2.1
      omega
    · rw [if_neg q]
      exact sk_sm_zero _ _ (fun i _ _ => by (try simp only []); rw [kd_2, if_neg q]))
  rw [e, sm_one _ _ k0 (by omega), (h.1 k k0 (by omega)).1]
theorem cn_3 {k : Int} (h : pr cells hands ly hs nw) (hc : cells = R 0 * R 1) (hru : ru_ok (R 0) (R 1)) (k0 : 0 ≤ k) (k1 : k < R 1) : x_cn ly hs (R 0) 3 cells k = sk_sm (fun i => nw (R 0 * k + i)) 0 (R 0).toNat := by
  obtain ⟨f0, f1, f2, f3, f4, -⟩ := ru_first hru k0 k1
  have cl := ru_cells hru
  have f9 : k * R 0 + R 0 ≤ cells := by
    rw [hc, ← f2, Int.mul_comm (R 0) (R 1)]
    exact Int.mul_le_mul_of_nonneg_right (by omega) (by omega)
  have e : x_cn ly hs (R 0) 3 cells k = sk_sm (fun c => if k * R 0 ≤ c ∧ c < k * R 0 + R 0 then nw c else 0) 0 cells.toNat := by
    unfold x_cn
    refine sk_sm_congr _ _ (fun c a b => ?_)
    (try simp only [])
    have hcc := h.1 c a (by omega)
    have e5 := Int.emod_add_mul_ediv c (R 0)
    have e6 := Int.emod_nonneg c (show R 0 ≠ 0 by omega)
    have e7 := Int.emod_lt_of_pos c (show 0 < R 0 by omega)
    have iff1 : c / R 0 = k ↔ (k * R 0 ≤ c ∧ c < k * R 0 + R 0) := by
      constructor
      · intro q
        rw [q, Int.mul_comm] at e5
        omega
      · rintro ⟨q1, q2⟩
        have a1 : k ≤ c / R 0 := Int.le_ediv_of_mul_le (by omega) q1
        have a2 : c / R 0 < k + 1 := Int.ediv_lt_of_lt_mul (by omega) (by rw [f2]; exact q2)
        omega
    by_cases q : c / R 0 = k
    · rw [if_pos (iff1.mp q)]
      have : sk_sm (fun i => if x_kd ly (R 0) 3 c i = k then (1 : Int) else 0) 0 (hs c).toNat = sk_sm (fun _ => (1 : Int)) 0 (hs c).toNat := sk_sm_congr _ _ (fun i _ _ => by (try simp only []); rw [kd_3, if_pos q])
      rw [this, sm_const, hcc.1]
      have := hcc.2.1
      omega
    · rw [if_neg (fun z => q (iff1.mpr z))]
      exact sk_sm_zero _ _ (fun i _ _ => by (try simp only []); rw [kd_3, if_neg q])
  rw [e]
  have s1 : cells.toNat = (k * R 0).toNat + ((R 0).toNat + (cells - k * R 0 - R 0).toNat) := by omega
  rw [s1, sk_sm_add, sk_sm_add]
  rw [sk_sm_zero (k * R 0).toNat 0 (fun j a b => by (try simp only []); rw [if_neg (by omega)])]
  rw [sk_sm_zero (cells - k * R 0 - R 0).toNat _ (fun j a b => by (try simp only []); rw [if_neg (by omega)])]
  have sh := sk_sm_shift (fun c => if k * R 0 ≤ c ∧ c < k * R 0 + R 0 then nw c else 0) (k * R 0) (R 0).toNat 0
  rw [show (0 : Int) + ((k * R 0).toNat : Int) = k * R 0 + 0 by omega, sh]
  have : sk_sm (fun j => if k * R 0 ≤ k * R 0 + j ∧ k * R 0 + j < k * R 0 + R 0 then nw (k * R 0 + j) else 0) 0 (R 0).toNat = sk_sm (fun i => nw (R 0 * k + i)) 0 (R 0).toNat := sk_sm_congr _ _ (fun j a b => by (try simp only []); rw [if_pos (by omega), Int.mul_comm k])
  rw [this]
  omega
theorem cn_4 {k : Int} (h : pr cells hands ly hs nw) (c1 : cells ≤ 40) (W : Int) : x_cn ly hs W 4 cells k = mo_hand nw cells k 0 := by
  unfold x_cn mo_hand
  refine sk_sm_congr _ _ (fun c a b => ?_)
  obtain ⟨p1, p2, p3, p4⟩ := h.1 c a (by omega)
  (try simp only [])
  rw [p1]
  refine sk_sm_congr _ _ (fun i i0 i1 => ?_)
  (try simp only [])
  rw [kd_4, (p4 i i0 (by omega)).2.1]
  simp
theorem cn_5 {k : Int} (h : pr cells hands ly hs nw) (c1 : cells ≤ 40) (W : Int) : x_cn ly hs W 5 cells k = mo_ll nw cells k := by
  unfold x_cn mo_ll
  refine sk_sm_congr _ _ (fun c a b => ?_)
  obtain ⟨p1, p2, p3, p4⟩ := h.1 c a (by omega)
  (try simp only [])
  rw [p1]
  refine sk_sm_congr _ _ (fun i i0 i1 => ?_)
  (try simp only [])
  rw [kd_5, (p4 i i0 (by omega)).1]
theorem ct_eq {a : Int} (h : pr cells hands ly hs nw) (c1 : cells ≤ 40) (ha : a = 6 ∨ a = 8 ∨ a = 9) : sk_sm (x_ct ly hs leg a) 0 cells.toNat = sk_sm (mo_mc nw leg a) 0 cells.toNat := by
  refine sk_sm_congr _ _ (fun c p q => ?_)
  have hc := h.1 c p (by omega)
  unfold x_ct mo_mc
  rcases ha with rfl | rfl | rfl
  · rw [if_pos rfl, if_pos rfl, hc.1]
  · rw [if_neg (by omega), if_neg (by omega), if_pos rfl, if_neg (by omega), if_pos rfl, pr_ben hc]
    rfl
  · rw [if_neg (by omega), if_neg (by omega), if_neg (by omega), if_neg (by omega), if_neg (by omega), pr_pure hc]
    rfl
theorem ct_7 (h : pr cells hands ly hs nw) (c1 : cells ≤ 40) : sk_sm (x_ct ly hs leg 7) 0 cells.toNat = sk_sm (fun l => if a_shown (mt nw l) (ms nw l) leg (nw l) = 26 then 0 else 1) 0 cells.toNat := by
  refine sk_sm_congr _ _ (fun c p q => ?_)
  have hc := h.1 c p (by omega)
  (try simp only [])
  rw [pr_shown hc]
  unfold x_ct
  rw [if_neg (by omega), if_pos rfl]
  rfl
end RASK
theorem most_eq {S : Nat → Int} {Y : Nat → Int → Int} {R ly hs : Int → Int} {hands a : Int} (h : pr (R 0 * R 1) hands ly hs (Y 18)) (hc : S 23 = R 0 * R 1) (hh : S 22 = hands) (h0 : Y 13 0 = R 0) (h1 : Y 13 1 = R 1) (h2 : Y 13 2 = R 2) (hru : ru_ok (R 0) (R 1)) (d0 : 0 ≤ hands) (d4 : hands ≤ 4) (a0 : 0 ≤ a) (a9 : a ≤ 9) : x_mst R ly hs hands a = mo_most S Y a := by
  have cl := ru_cells hru
  have c0 : 0 ≤ R 0 * R 1 := cl.1
  have c1 : R 0 * R 1 ≤ 40 := cl.2.1
  unfold x_mst mo_most
  rw [hc, hh]
  have : a = 0 ∨ a = 1 ∨ a = 2 ∨ a = 3 ∨ a = 4 ∨ a = 5 ∨ a = 6 ∨ a = 7 ∨ a = 8 ∨ a = 9 := by omega
  rcases this with rfl | rfl | rfl | rfl | rfl | rfl | rfl | rfl | rfl | rfl
  · simp only [if_true]; exact pr_all h c0 c1
  · simp (config := { decide := true }) only [if_true, if_false]; exact pr_stra h c0 c1 d0 d4
  · simp (config := { decide := true }) only [if_true, if_false, false_and, or_self]
    have e1 : mo_tn (Y 13) (R 0 * R 1) hands 2 = R 0 * R 1 := rfl
    have e2 : x_kn R hands 2 = R 0 * R 1 := rfl
    rw [e1, e2]
    exact am_c (fun k k0 k1 => by rw [cn_2 h c1 (R 0) k0 k1]; rfl)
  · simp (config := { decide := true }) only [if_true, if_false, false_and, or_self]
    have e1 : mo_tn (Y 13) (R 0 * R 1) hands 3 = Y 13 1 := rfl
    have e2 : x_kn R hands 3 = R 1 := rfl
    rw [e1, e2, h1]
    exact am_c (fun k k0 k1 => by
      rw [cn_3 h rfl hru k0 k1]
      show _ = sk_sm (fun i => Y 18 (Y 13 0 * k + i)) 0 (Y 13 0).toNat
      rw [h0])
  · simp (config := { decide := true }) only [if_true, if_false, false_and, or_self]
    have e1 : mo_tn (Y 13) (R 0 * R 1) hands 4 = hands := rfl
    have e2 : x_kn R hands 4 = hands := rfl
    rw [e1, e2]
    exact am_c (fun k k0 k1 => by rw [cn_4 h c1 (R 0)]; rfl)
  · simp (config := { decide := true }) only [if_true, if_false, true_and]
    have e2 : x_kn R hands 5 = 26 := rfl
    rw [pr_all h c0 c1, e2]
    by_cases z : sk_sm (Y 18) 0 (R 0 * R 1).toNat = 0
    · rw [if_pos z, if_pos z]
    · rw [if_neg z, if_neg z]
      exact am_c (fun k k0 k1 => cn_5 h c1 (R 0))
  · simp (config := { decide := true }) only [if_true, if_false, false_and, true_or]
    rw [h2]
    exact ct_eq h c1 (by omega)
  · simp (config := { decide := true }) only [if_true, if_false, false_and]
    rw [h2]
    exact ct_7 h c1
  · simp (config := { decide := true }) only [if_true, if_false, false_and, true_or, or_true]
    rw [h2]
    exact ct_eq h c1 (by omega)
  · simp (config := { decide := true }) only [if_true, if_false, false_and, or_true]
    rw [h2]
    exact ct_eq h c1 (by omega)
