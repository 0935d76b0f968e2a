/-! ===== the small questions on both sides ===== -/
section RSMALL
variable {S : Nat → Int} {Y : Nat → Int → Int} {R ly hs : Int → Int} {wn hands a b c : Int} {sg ln pl ss lg : Int → Int → Int} {size lines longest : Int → Int}
theorem layer_eq (hp : pr (R 0 * R 1) hands ly hs (Y 18)) (hc : S 23 = R 0 * R 1) (c1 : R 0 * R 1 ≤ 40) : (if a < 0 ∨ R 0 * R 1 ≤ a ∨ b < 0 ∨ hs a ≤ b ∨ c < 0 ∨ 2 < c then -1 else if c = 0 then ly (6 * a + b) / 64 else if c = 1 then ly (6 * a + b) / 16 % 4 else ly (6 * a + b) % 16) = (if a < 0 ∨ S 23 ≤ a ∨ b < 0 ∨ Y 18 a ≤ b ∨ c < 0 ∨ 2 < c then -1 else Y 18 (40 + 3 * (6 * a + b) + c)) := by
  rw [hc]
  by_cases e : a < 0 ∨ R 0 * R 1 ≤ a
  · rw [if_pos (by omega : a < 0 ∨ R 0 * R 1 ≤ a ∨ b < 0 ∨ hs a ≤ b ∨ c < 0 ∨ 2 < c), if_pos (by omega : a < 0 ∨ R 0 * R 1 ≤ a ∨ b < 0 ∨ Y 18 a ≤ b ∨ c < 0 ∨ 2 < c)]
  · obtain ⟨p1, p2, p3, p4⟩ := hp.1 a (by omega) (by omega)
    by_cases e2 : b < 0 ∨ hs a ≤ b ∨ c < 0 ∨ 2 < c
    · rw [if_pos (by omega : a < 0 ∨ R 0 * R 1 ≤ a ∨ b < 0 ∨ hs a ≤ b ∨ c < 0 ∨ 2 < c), if_pos (by omega : a < 0 ∨ R 0 * R 1 ≤ a ∨ b < 0 ∨ Y 18 a ≤ b ∨ c < 0 ∨ 2 < c)]
    · rw [if_neg (by omega : ¬ (a < 0 ∨ R 0 * R 1 ≤ a ∨ b < 0 ∨ hs a ≤ b ∨ c < 0 ∨ 2 < c)), if_neg (by omega : ¬ (a < 0 ∨ R 0 * R 1 ≤ a ∨ b < 0 ∨ Y 18 a ≤ b ∨ c < 0 ∨ 2 < c))]
      obtain ⟨q1, q2, q3, -⟩ := p4 b (by omega) (by omega)
      have : c = 0 ∨ c = 1 ∨ c = 2 := by omega
      rcases this with rfl | rfl | rfl
      · rw [if_pos rfl]; exact q1.symm
      · rw [if_neg (by omega), if_pos rfl]; exact q2.symm
      · rw [if_neg (by omega), if_neg (by omega)]; exact q3.symm
theorem shows_eq (hp : pr (R 0 * R 1) hands ly hs (Y 18)) (hc : S 23 = R 0 * R 1) (c1 : R 0 * R 1 ≤ 40) (h2 : Y 13 2 = R 2) : (if a < 0 ∨ R 0 * R 1 ≤ a then -1 else a_shown (a_t6 ly a) (a_s6 ly a) (R 2) (hs a)) = (if a < 0 ∨ S 23 ≤ a then -1 else a_shown (mt (Y 18) a) (ms (Y 18) a) (Y 13 2) (Y 18 a)) := by
  rw [hc, h2]
  by_cases e : a < 0 ∨ R 0 * R 1 ≤ a
  · rw [if_pos e, if_pos e]
  · rw [if_neg e, if_neg e, pr_shown (hp.1 a (by omega) (by omega))]
theorem lamp_eq (hp : pr (R 0 * R 1) hands ly hs (Y 18)) (hc : S 23 = R 0 * R 1) (c1 : R 0 * R 1 ≤ 40) (h2 : Y 13 2 = R 2) : (if a < 0 ∨ R 0 * R 1 ≤ a then -1 else a_lit (a_t6 ly a) (a_s6 ly a) (R 2) (hs a)) = (if a < 0 ∨ S 23 ≤ a then -1 else a_lit (mt (Y 18) a) (ms (Y 18) a) (Y 13 2) (Y 18 a)) := by
  rw [hc, h2]
  by_cases e : a < 0 ∨ R 0 * R 1 ≤ a
  · rw [if_pos e, if_pos e]
  · rw [if_neg e, if_neg e, pr_lit (hp.1 a (by omega) (by omega))]
theorem over_eq (hp : pr (R 0 * R 1) hands ly hs (Y 18)) (hc : S 23 = R 0 * R 1) (hru : ru_ok (R 0) (R 1)) (hh : S 22 = hands) : (if a < 0 ∨ hands ≤ a ∨ b < 0 ∨ hands ≤ b then -1 else x_prs ly hs a b) = (if a < 0 ∨ S 22 ≤ a ∨ b < 0 ∨ S 22 ≤ b then -1 else mo_over (Y 18) (S 23) a b) := by
  have cl := ru_cells hru
  rw [hc, hh, pr_over hp cl.1 cl.2.1]
theorem shares_eq (hp : pr (R 0 * R 1) hands ly hs (Y 18)) (hc : S 23 = R 0 * R 1) (hru : ru_ok (R 0) (R 1)) (hh : S 22 = hands) (h0 : 0 ≤ hands) (h4 : hands ≤ 4) : (if a < 0 ∨ hands ≤ a ∨ b < 0 ∨ 999 < b then -1 else if sk_sm (a_str ly hs) 0 4 = 0 then 0 else b * a_str ly hs a / sk_sm (a_str ly hs) 0 4) = (if a < 0 ∨ S 22 ≤ a ∨ b < 0 ∨ 999 < b then -1 else if sk_sm (fun h => mo_hand (Y 18) (S 23) h 1) 0 (S 22).toNat = 0 then 0 else b * mo_hand (Y 18) (S 23) a 1 / sk_sm (fun h => mo_hand (Y 18) (S 23) h 1) 0 (S 22).toNat) := by
  have cl := ru_cells hru
  rw [hc, hh, pr_stra hp cl.1 cl.2.1 h0 h4, pr_str hp cl.1 cl.2.1]
theorem sk_ff_one {p : Int → Bool} {v : Int → Int} {e : Int} {k : Int} : ∀ (n : Nat) (i : Int), i ≤ k → k < i + n → p k = true → (∀ j, i ≤ j → j < i + n → p j = true → j = k) → sk_ff p v e i n = v k
  | 0, i, a, b, _, _ => by push_cast at b; omega
  | n + 1, i, a, b, hk, hu => by
    simp only [sk_ff]
    by_cases z : p i = true
    · rw [if_pos z, hu i (by omega) (by push_cast; omega) z]
    · rw [if_neg z]
      have : i ≠ k := by rintro rfl; exact z hk
      exact sk_ff_one n (i + 1) (by omega) (by push_cast at b; omega) hk (fun j p q r => hu j (by omega) (by push_cast; omega) r)
theorem sk_ff_e {p : Int → Bool} {v : Int → Int} {e : Int} : ∀ (n : Nat) (i : Int), (∀ j, i ≤ j → j < i + n → p j = false) → sk_ff p v e i n = e
  | 0, _, _ => rfl
  | n + 1, i, h => by
    simp only [sk_ff]
    rw [if_neg (by rw [h i (by omega) (by push_cast; omega)]; simp)]
    exact sk_ff_e n (i + 1) (fun j a b => h j (by omega) (by push_cast; omega))
theorem sign_eq (h : bw S Y R wn sg ln pl ss lg size lines longest) : (if a < 0 ∨ wn ≤ a ∨ b < 0 ∨ lines a ≤ b ∨ c < 0 ∨ lg a b ≤ c then -1 else sg a (ss a b + c)) = (if a < 0 ∨ S 27 ≤ a ∨ b < 0 ∨ 3 < b then -1 else sk_ff (fun k => decide (Y 15 (3 * (16 * a + k) + 1) = b ∧ Y 15 (3 * (16 * a + k) + 2) = c)) (fun k => Y 15 (3 * (16 * a + k))) (-1) 0 (Y 16 a).toNat) := by
  obtain ⟨-, -, -, hn, hb, hw⟩ := h
  rw [hn]
  by_cases e : a < 0 ∨ wn ≤ a ∨ b < 0
  · rw [if_pos (by omega : a < 0 ∨ wn ≤ a ∨ b < 0 ∨ lines a ≤ b ∨ c < 0 ∨ lg a b ≤ c), if_pos (by omega : a < 0 ∨ wn ≤ a ∨ b < 0 ∨ 3 < b)]
  · obtain ⟨hr, hp, hl, -, ⟨n1, n4⟩, -, z1, z16⟩ := hw a (by omega) (by omega)
    obtain ⟨r1, r2, -⟩ := hr
    rw [r1]
    by_cases e2 : lines a ≤ b ∨ c < 0 ∨ lg a b ≤ c
    · rw [if_pos (by omega : a < 0 ∨ wn ≤ a ∨ b < 0 ∨ lines a ≤ b ∨ c < 0 ∨ lg a b ≤ c)]
      by_cases e3 : 3 < b
      · rw [if_pos (by omega : a < 0 ∨ wn ≤ a ∨ b < 0 ∨ 3 < b)]
      · rw [if_neg (by omega : ¬ (a < 0 ∨ wn ≤ a ∨ b < 0 ∨ 3 < b)), sk_ff_e _ _ (fun j j0 j1 => ?_)]
        apply decide_eq_false
        obtain ⟨-, s2, s3⟩ := r2 j j0 (by omega)
        obtain ⟨-, -, q3, q4, q5, -⟩ := hp j j0 (by omega)
        have l3 := (hl.2.2.1 j j0 (by omega)).2
        rw [s2, s3]
        rintro ⟨u, v⟩
        rw [u, v] at l3
        omega
    · rw [if_neg (by omega : ¬ (a < 0 ∨ wn ≤ a ∨ b < 0 ∨ lines a ≤ b ∨ c < 0 ∨ lg a b ≤ c)), if_neg (by omega : ¬ (a < 0 ∨ wn ≤ a ∨ b < 0 ∨ 3 < b))]
      have k1 := hl.2.2.2 b c (by omega) (by omega) (by omega) (by omega)
      have k2 := hl.2.1 b (by omega) (by omega)
      obtain ⟨s1, s2, s3⟩ := r2 (ss a b + c) (by omega) (by omega)
      rw [sk_ff_one (k := ss a b + c) _ _ (by omega) (by omega) (by apply decide_eq_true; rw [s2, s3]; exact k1) (fun j j0 j1 q => ?_), s1]
      have q := of_decide_eq_true q
      obtain ⟨-, t2, t3⟩ := r2 j j0 (by omega)
      rw [t2, t3] at q
      have l3 := (hl.2.2.1 j j0 (by omega)).1
      rw [q.1, q.2] at l3
      omega
theorem wr_meet_c {f f' g g' : Int → Int} {l : Int} : ∀ (n : Nat), (n : Int) ≤ l → (∀ k, 0 ≤ k → k < l → f k = g k) → (∀ k : Int, 0 ≤ k → k < n → f' k = g' k) → wr_meet f f' l n = wr_meet g g' l n
  | 0, _, _, _ => rfl
  | n + 1, h, h1, h2 => by
    have e : sk_ff (fun k => decide (f (l - ((n + 1 : Nat) : Int) + k) ≠ f' k)) (fun _ => (0 : Int)) 1 0 (n + 1) = sk_ff (fun k => decide (g (l - ((n + 1 : Nat) : Int) + k) ≠ g' k)) (fun _ => (0 : Int)) 1 0 (n + 1) := by
      refine sk_ff_congr _ _ (fun k k0 k1 => ?_)
      (try simp only [])
      push_cast at k1 h
      rw [h1 _ (by push_cast; omega) (by push_cast; omega), h2 k k0 (by push_cast; omega)]
      exact ⟨rfl, trivial⟩
    have r := wr_meet_c n (by push_cast at h; omega) h1 (fun k a b => h2 k a (by push_cast; omega))
    simp only [wr_meet]
    rw [r]
    by_cases z : sk_ff (fun k => decide (g (l - ((n + 1 : Nat) : Int) + k) ≠ g' k)) (fun _ => (0 : Int)) 1 0 (n + 1) = 1
    · rw [if_pos z, if_pos (e.trans z)]
    · rw [if_neg z, if_neg (fun q => z (e.symm.trans q))]
theorem meet_eq (h : bw S Y R wn sg ln pl ss lg size lines longest) (a0 : 0 ≤ a) (a1 : a < wn) (b0 : 0 ≤ b) (b1 : b < wn) : wr_meet (sg a) (sg b) (lg a 0) (sk_min (lg a 0) (lg b 0)).toNat = mo_meet Y a b := by
  obtain ⟨-, -, -, hn, hb, hw⟩ := h
  have key : ∀ w, 0 ≤ w → w < wn → Y 17 (4 * w) = lg w 0 ∧ 1 ≤ lg w 0 ∧ lg w 0 ≤ 8 ∧ ∀ k, 0 ≤ k → k < lg w 0 → Y 15 (3 * (16 * w + k)) = sg w k := by
    intro w w0 w1
    obtain ⟨⟨r1, r2, r3⟩, hp, hl, -, ⟨n1, n4⟩, -, z1, z16⟩ := hw w w0 w1
    have e := r3 0 (by omega) (by omega)
    rw [if_pos (by omega), Int.add_zero] at e
    have k2 := hl.2.1 0 (by omega) (by omega)
    have k0 := hl.1
    exact ⟨e, k2.2.1, k2.2.2.1, fun k k0 k1 => (r2 k k0 (by omega)).1⟩
  obtain ⟨u1, u2, u3, u4⟩ := key a a0 a1
  obtain ⟨v1, v2, v3, v4⟩ := key b b0 b1
  unfold mo_meet
  rw [u1, v1]
  have mi : sk_min (lg a 0) (lg b 0) ≤ lg a 0 ∧ sk_min (lg a 0) (lg b 0) ≤ lg b 0 ∧ 0 ≤ sk_min (lg a 0) (lg b 0) := by unfold sk_min; split <;> omega
  exact wr_meet_c _ (by omega) (fun k k0 k1 => (u4 k k0 k1).symm) (fun k k0 k1 => (v4 k k0 (by omega)).symm)
theorem lm_eq (h : bw S Y R wn sg ln pl ss lg size lines longest) (a0 : 0 ≤ a) (a1 : a < wn) : mo_lm Y a = lines a := by
  obtain ⟨-, -, -, hn, hb, hw⟩ := h
  obtain ⟨⟨r1, r2, r3⟩, hp, hl, -, ⟨n1, n4⟩, -, z1, z16⟩ := hw a a0 a1
  have key : ∀ l, 0 ≤ l → l < 4 → (0 < Y 17 (4 * a + l) ↔ l < lines a) := by
    intro l l0 l1
    rw [r3 l l0 l1]
    by_cases z : l < lines a
    · rw [if_pos z]; have := hl.2.1 l l0 z; exact ⟨fun _ => z, fun _ => by omega⟩
    · rw [if_neg z]; exact ⟨fun q => by omega, fun q => absurd q z⟩
  unfold mo_lm
  rw [sk_sm_congr (f' := fun k => if k < lines a then 1 else 0) 4 0 (fun k k0 k1 => by
    (try simp only [])
    by_cases z : k < lines a
    · rw [if_pos z, if_pos ((key k k0 (by omega)).mpr z)]
    · rw [if_neg z, if_neg (fun q => z ((key k k0 (by omega)).mp q))])]
  have : lines a = 1 ∨ lines a = 2 ∨ lines a = 3 ∨ lines a = 4 := by omega
  rcases this with q | q | q | q <;> rw [q] <;> rfl
end RSMALL
