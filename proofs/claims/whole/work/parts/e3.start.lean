/-! ===== the start ===== -/
section SS
variable {s : State} {b : Nat}
def ss_tm (i : Nat) : Term := .string (sk_so i).1 (sk_so i).2.1
theorem ss_w1 : ∀ i : Nat, i < 7 → sk_sl.getD i 0 < 2 ^ 31 := by decide
theorem ss_w2 : ∀ i : Nat, i < 7 → Cond.exactly (ss_tm i) "java/lang/String" ∈ sw_F := by decide +kernel
theorem ss_w3 : ∀ i : Nat, i < 7 → Cond.eq (.field (ss_tm i) "java/lang/String" "coder" "B") (.int 0) ∈ sw_F := by decide +kernel
theorem ss_w4 : ∀ i : Nat, i < 7 → Cond.arrayOf (.field (ss_tm i) "java/lang/String" "value" "[B") .byte ∈ sw_F := by decide +kernel
theorem ss_w5 : ∀ i : Nat, i < 7 → Cond.eq (.length (.field (ss_tm i) "java/lang/String" "value" "[B")) (.int (Int32.ofNat (sk_sl.getD i 0))) ∈ sw_F := by decide +kernel
theorem ss_w6 : ∀ i : Nat, i < 7 → ∀ j : Nat, j < sk_sl.getD i 0 → Cond.eq (.elem (.field (ss_tm i) "java/lang/String" "value" "[B") (.int (Int32.ofNat j))) (.int ((sk_sb.getD i []).getD j 0)) ∈ sw_F := by decide +kernel
theorem ss_w7 : ∀ i : Nat, i < 7 → ∀ j : Nat, j < 7 → i ≠ j → Cond.not (Cond.eq (ss_tm i) (ss_tm j)) ∈ sw_F ∨ Cond.not (Cond.eq (ss_tm j) (ss_tm i)) ∈ sw_F := by decide +kernel
theorem ss_w8 : ∀ i : Nat, i < 7 → Cond.stringRef (sk_so i).1 (sk_so i).2.1 (sk_so i).2.2 ∈ lw_tbl := by decide +kernel
/-- the texts -/
theorem ss_str {A : Nat → Prop} (hts : ∀ w ∈ lw_tbl, w.before #[Value.ref b] s = true) (hs : ∀ w ∈ sw_F, w.before #[Value.ref b] s = true) (hA : ∀ a : Nat, a < s.heap.size → ¬ A a) : ∃ adK adV : Nat → Nat, vk_S 7 sk_sl sk_sb adK adV A s s.heap ∧ ∀ i : Nat, i < 7 → vk_R (sk_so i).1 (sk_so i).2.1 (sk_so i).2.2 (adK i) s := by
  obtain ⟨adK, adV, h1, h2⟩ := vk_Sof (args := #[Value.ref b]) (tm := ss_tm) ss_w1 (fun i hi => hs _ (ss_w2 i hi)) (fun i hi => hs _ (ss_w3 i hi)) (fun i hi => hs _ (ss_w4 i hi)) (fun i hi => hs _ (ss_w5 i hi)) (fun i hi j hj => hs _ (ss_w6 i hi j hj)) (fun i j hi hj hij => (ss_w7 i hi j hj hij).elim (fun h => Or.inl (hs _ h)) (fun h => Or.inr (hs _ h))) hA
  refine ⟨adK, adV, h1, fun i hi => vk_R.of (A := #[Value.ref b]) (hts _ (ss_w8 i hi)) (h2 i hi)⟩
def sw_f (k : Nat) : Int → Int := match k with
  | 2 => wy2
  | 3 => wy3
  | 4 => wy4
  | 5 => wy5
  | k => fun j => (sw_v k j.toNat).toInt
theorem sw_fv : ∀ k : Nat, k < 6 → ∀ j : Nat, j < sw_n k → Int32.ofInt (sw_f k (j : Int)) = sw_v k j := by decide +kernel
theorem sw_bnd : sk_bnd (sw_f 0) (sw_f 1) := by
  refine ⟨fun w w0 w1 => ?_, fun w w0 w1 => ?_⟩
  · rcases (show w = 0 ∨ w = 1 ∨ w = 2 ∨ w = 3 by omega) with rfl | rfl | rfl | rfl <;> exact ⟨by decide +kernel, by decide +kernel⟩
  · rcases (show w = 0 ∨ w = 1 by omega) with rfl | rfl <;> exact ⟨by decide +kernel, by decide +kernel⟩
/-- all that is known of the law's first state, with a picture of its old cells -/
theorem ss_ok (l : Launch) (hl : l.stackTraces = false) {L : Nat} {xs : Nat → Int32} (hL : L ≤ 3072) (hts : ∀ w ∈ lw_tbl, w.before #[Value.ref b] s = true) (hs : ∀ w ∈ sw_F, w.before #[Value.ref b] s = true) (hX : va_X b L xs s s.heap) (hbl : b < s.heap.size) :
    ∃ (g : sk_G) (m : Nat → sk_C), g.1 = l ∧ g.2.1 = s ∧ sk_ok g ∧ lh_ok g ∧ sk_H g (s.heap.size, m) s.heap ∧ m b = (30, L, sk_I (fun j => (xs j.toNat).toInt)) ∧ st_at g (s.heap.size, m) ∧ sbd_at g (s.heap.size, m) ∧ ∀ k, k < 6 → g.2.2.2.2 k < s.heap.size := by
  obtain ⟨D, hK⟩ := sw_classes hts
  obtain ⟨cA, hcA⟩ := sw_arrs hts
  obtain ⟨ad, had, hne⟩ := sw_stats hs
  have hA : ∀ a : Nat, a < s.heap.size → ¬ (fun q : Nat => s.heap.size ≤ q) a := fun a h => Nat.not_le.mpr h
  obtain ⟨adK, adV, hS, hR⟩ := ss_str (A := fun q : Nat => s.heap.size ≤ q) hts hs hA
  obtain ⟨sa, -, -, -, q1, -⟩ := Cond.exactly_spec (args := #[Value.ref b]) (first := s) (o := none) (s := s) (idx := []) (t := .string "ScrapedSkin" 156) (cls := "java/lang/String") (hs _ (by decide +kernel))
  obtain ⟨addr, hadd⟩ : ∃ f : Nat → Nat, f = fun k => if k < 6 then ad k else if k < 17 then adK (k - 10) else adV (k - 20) := ⟨_, rfl⟩
  have a0 : ∀ k, k < 6 → addr k = ad k := fun k hk => by rw [hadd]; exact if_pos hk
  have a1 : ∀ i, i < 7 → addr (10 + i) = adK i := fun i hi => by
    rw [hadd]
    show (if 10 + i < 6 then _ else if 10 + i < 17 then _ else _) = _
    rw [if_neg (by omega), if_pos (by omega), Nat.add_sub_cancel_left]
  have a2 : ∀ i, i < 7 → addr (20 + i) = adV i := fun i hi => by
    rw [hadd]
    show (if 20 + i < 6 then _ else if 20 + i < 17 then _ else _) = _
    rw [if_neg (by omega), if_neg (by omega), Nat.add_sub_cancel_left]
  have hlt : ∀ k, k < 6 → ad k < s.heap.size := fun k hk => by
    obtain ⟨-, -, c, hc, -⟩ := had k hk
    exact (Array.getElem?_eq_some_iff.mp hc).1
  have hm0 : ∀ a : Nat, ∃ c : sk_C, (a = b → c = (30, L, sk_I (fun j => (xs j.toNat).toInt))) ∧ (∀ k : Nat, k < 6 → a = ad k → c = (30, sw_n k, sk_I (sw_f k))) ∧ (a ≠ b → (∀ k : Nat, k < 6 → a ≠ ad k) → c.1 = 40) := by
    intro a
    by_cases e : a = b
    · exact ⟨_, fun _ => rfl, fun k hk h => ((had k hk).2.1 (e.symm.trans h)).elim, fun h => (h e).elim⟩
    · by_cases e2 : ∃ k : Nat, k < 6 ∧ a = ad k
      · obtain ⟨k, hk, rfl⟩ := e2
        refine ⟨(30, sw_n k, sk_I (sw_f k)), fun h => (e h).elim, fun j hj h => ?_, fun _ h => (h k hk rfl).elim⟩
        by_cases ej : k = j
        · subst ej; rfl
        · exact (hne k j hk hj ej h).elim
      · exact ⟨(40, 0, fun _ => .inl 0), fun h => (e h).elim, fun k hk h => (e2 ⟨k, hk, h⟩).elim, fun _ _ => rfl⟩
  obtain ⟨m, hm⟩ := Classical.axiomOfChoice hm0
  have mb : m b = (30, L, sk_I (fun j => (xs j.toNat).toInt)) := (hm b).1 rfl
  have mk : ∀ k, k < 6 → m (ad k) = (30, sw_n k, sk_I (sw_f k)) := fun k hk => (hm (ad k)).2.1 k hk rfl
  have n1 : ∀ n : Nat, ¬ (30 : Nat) < 20 := fun _ => by decide
  refine ⟨(l, s, D, cA, addr), m, rfl, rfl, ⟨hK, hcA, ⟨#[Value.ref b], hts⟩, fun k hk => ?_, ⟨fun i hi => ?_, fun i j hi hj e => hS.2 i j hi hj ((a1 i hi).symm.trans (e.trans (a1 j hj)))⟩, fun k hk => ?_, ?_⟩, ⟨hl, ⟨sa, vk_R.of (A := #[Value.ref b]) (hts _ (by decide +kernel)) q1⟩, vx_Zqof (args := #[Value.ref b]) (hts _ (by decide +kernel)) (hts _ (by decide +kernel)) (hs _ (by decide +kernel)) hA, vx_Zqof (args := #[Value.ref b]) (hts _ (by decide +kernel)) (hts _ (by decide +kernel)) (hs _ (by decide +kernel)) hA⟩, ⟨rfl, Nat.le_refl _, fun _ _ => rfl, fun a ha => ?_⟩, mb, ?_, ?_, ?_⟩
  · have h := va_Zof (A := fun q : Nat => s.heap.size ≤ q) (hts _ (sw_w3 k hk)) (hts (.initialized "ScrapedSkin$Rules") (by decide +kernel)) (had k hk).1 hA
    rw [← a0 k hk] at h
    exact h
  · have h := hS.1 i hi
    rw [← a1 i hi, ← a2 i hi] at h
    exact h
  · have h := hR k hk
    rw [← a1 k hk] at h
    exact h
  · exact va_Zof (A := fun q : Nat => s.heap.size ≤ q) (hts (.laysStatic "java/lang/String" "COMPACT_STRINGS" "Z") (by decide +kernel)) (hts (.initialized "java/lang/String") (by decide +kernel)) (va_eqi (hs _ (by decide +kernel))) hA
  · replace ha : (m a).1 < 40 := ha
    show sk_at (l, s, D, cA, addr) a (m a) s.heap ∧ ((m a).1 < 30 → _)
    by_cases e : a = b
    · subst e
      rw [mb]
      obtain ⟨cell, c1, c2, c3, c4, c5⟩ := hX
      refine ⟨⟨fun h => absurd (show 30 < 20 from h) (by decide), fun _ h => absurd (show 30 < 30 from h) (by decide), fun _ _ => ⟨cell, c1, c2, c3, c4, Nat.lt_of_le_of_lt hL (by decide), fun j hj => (c5 j hj).trans ?_⟩⟩, fun h => absurd (show 30 < 30 from h) (by decide)⟩
      show some (Value.int (xs j)) = some (Value.int (Int32.ofInt (xs (Int.toNat (j : Int))).toInt))
      rw [Int32.ofInt_toInt, Int.toNat_natCast]
    · by_cases e2 : ∃ k : Nat, k < 6 ∧ a = ad k
      · obtain ⟨k, hk, rfl⟩ := e2
        rw [mk k hk]
        obtain ⟨-, -, cell, c1, c2, c3, c4, c5⟩ := had k hk
        refine ⟨⟨fun h => absurd (show 30 < 20 from h) (by decide), fun _ h => absurd (show 30 < 30 from h) (by decide), fun _ _ => ⟨cell, c1, c2, c3, c4, by show sw_n k < 2 ^ 31; unfold sw_n; split <;> decide, fun j hj => (c5 j hj).trans ?_⟩⟩, fun h => absurd (show 30 < 30 from h) (by decide)⟩
        show some (Value.int (sw_v k j)) = some (Value.int (Int32.ofInt (sw_f k (j : Int))))
        rw [sw_fv k hk j hj]
      · have := (hm a).2.2 e (fun k hk h => e2 ⟨k, hk, h⟩)
        omega
  · refine ⟨?_, ?_, ?_, ?_⟩
    · show m (addr 2) = _
      rw [a0 2 (by decide)]; exact mk 2 (by decide)
    · show m (addr 3) = _
      rw [a0 3 (by decide)]; exact mk 3 (by decide)
    · show m (addr 4) = _
      rw [a0 4 (by decide)]; exact mk 4 (by decide)
    · show m (addr 5) = _
      rw [a0 5 (by decide)]; exact mk 5 (by decide)
  · refine ⟨sw_f 0, sw_f 1, ?_, ?_, sw_bnd⟩
    · show m (addr 0) = _
      rw [a0 0 (by decide)]; exact mk 0 (by decide)
    · show m (addr 1) = _
      rw [a0 1 (by decide)]; exact mk 1 (by decide)
  · intro k hk
    show addr k < _
    rw [a0 k hk]
    exact hlt k hk
end SS
