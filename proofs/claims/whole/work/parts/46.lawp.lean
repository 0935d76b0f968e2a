/-! ===== laws: the pure reader ===== -/
abbrev lp_R : Type := Bool × Int × List Int
/-- go on, if it went well -/
def lp_b (r : lp_R) (f : Int → List Int → lp_R) : lp_R := if r.1 = true then f r.2.1 r.2.2 else (false, r.2.1, [])
def lp_let (c : Int) : Int := if c = 115 then 0 else if c = 100 then 1 else if c = 102 then 2 else if c = 105 then 3 else if c = 114 then 4 else if c = 121 then 5 else -1
/-- a sign that must stand next -/
def lp_e (T : Int → Int) (n x i : Int) (cs : List Int) : lp_R := if tp_ch T n (tp_skip T n i) = x then (true, tp_skip T n i + 1, cs) else (false, tp_skip T n i, [])
/-- atom 0, term 1, its loop 2, sum 3, its loop 4, behind the first sum of a unit 5, unit 6, loop of & 7, loop of | 8, condition 9 -/
def lp (T : Int → Int) (n : Int) : Nat → Nat → Int → Int → lp_R
  | 0, _, _, i => (false, tp_skip T n i, [])
  | F + 1, t, w, i =>
    let j := tp_skip T n i
    let c := tp_ch T n (tp_skip T n i)
    match t with
    | 0 => if 48 ≤ c ∧ c ≤ 57 then (if (tp_number T n 4 i).1 = -1 then (false, (tp_number T n 4 i).2, []) else (true, (tp_number T n 4 i).2, [16 * (tp_number T n 4 i).1]))
           else if lp_let c ≠ -1 then (true, j + 1, [1 + 16 * lp_let c])
           else if 6 ≤ w ∨ c ≠ 91 then (false, j, [])
           else lp_b (lp T n F 3 (w + 1) (j + 1)) (fun k cs => lp_e T n 93 k cs)
    | 1 => lp_b (lp T n F 0 w i) (fun k cs => lp_b (lp T n F 2 w k) (fun k2 cs2 => (true, k2, cs ++ cs2)))
    | 2 => if c = 42 ∨ c = 47 then lp_b (lp T n F 0 w (j + 1)) (fun k cs => lp_b (lp T n F 2 w k) (fun k2 cs2 => (true, k2, cs ++ (if c = 42 then 4 else 5) :: cs2))) else (true, j, [])
    | 3 => lp_b (lp T n F 1 w i) (fun k cs => lp_b (lp T n F 4 w k) (fun k2 cs2 => (true, k2, cs ++ cs2)))
    | 4 => if c = 43 ∨ c = 45 then lp_b (lp T n F 1 w (j + 1)) (fun k cs => lp_b (lp T n F 4 w k) (fun k2 cs2 => (true, k2, cs ++ (if c = 43 then 2 else 3) :: cs2))) else (true, j, [])
    | 5 => if c = 61 ∨ c = 60 ∨ c = 62 then lp_b (lp T n F 3 w (j + 1)) (fun k cs => (true, k, cs ++ [if c = 61 then 6 else if c = 60 then 7 else 8])) else (false, j, [])
    | 6 => if c = 33 then (if 6 ≤ w then (false, j, []) else lp_b (lp T n F 6 (w + 1) (j + 1)) (fun k cs => (true, k, cs ++ [9])))
           else if c = 40 then (if 6 ≤ w then (false, j, []) else lp_b (lp T n F 9 (w + 1) (j + 1)) (fun k cs => lp_e T n 41 k cs))
           else lp_b (lp T n F 3 w i) (fun k cs => lp_b (lp T n F 5 w k) (fun k2 cs2 => (true, k2, cs ++ cs2)))
    | 7 => if c = 38 then lp_b (lp T n F 6 w (j + 1)) (fun k cs => lp_b (lp T n F 7 w k) (fun k2 cs2 => (true, k2, cs ++ 10 :: cs2))) else (true, j, [])
    | 8 => if c = 124 then lp_b (lp T n F 6 w (j + 1)) (fun k cs => lp_b (lp T n F 7 w k) (fun k2 cs2 => lp_b (lp T n F 8 w k2) (fun k3 cs3 => (true, k3, cs ++ (cs2 ++ 11 :: cs3))))) else (true, j, [])
    | _ => lp_b (lp T n F 6 w i) (fun k cs => lp_b (lp T n F 7 w k) (fun k2 cs2 => lp_b (lp T n F 8 w k2) (fun k3 cs3 => (true, k3, cs ++ (cs2 ++ cs3)))))
theorem tp_num_in (T : Int → Int) (n most : Int) : ∀ (k : Nat) (i v dg : Int), (n - i).toNat = k → i ≤ n → 0 ≤ dg → 0 ≤ v → i ≤ (tp_num T n most k i v dg).2 ∧ (tp_num T n most k i v dg).2 ≤ n ∧ -1 ≤ (tp_num T n most k i v dg).1 ∧ (dg = 0 → i < n → 48 ≤ T i → T i ≤ 57 → most ≠ 0 → i < (tp_num T n most k i v dg).2)
  | 0, i, v, dg, hk, h, h0, hv => by
    simp only [tp_num]
    split <;> omega
  | k + 1, i, v, dg, hk, h, h0, hv => by
    simp only [tp_num]
    by_cases h2 : i < n ∧ 48 ≤ T i ∧ T i ≤ 57
    · rw [if_pos h2]
      have := tp_num_in T n most k (i + 1) (10 * v + T i - 48) (dg + 1) (by omega) (by omega) (by omega) (by omega)
      split
      · simp only []; omega
      · omega
    · rw [if_neg h2]
      split <;> (simp only []; omega)
/-- the value is of few digits -/
theorem tp_num_lt (T : Int → Int) (n most : Int) (hm : most = 2 ∨ most = 4) : ∀ (k : Nat) (i v dg : Int), dg ≤ most → ((dg = 0 ∧ v = 0) ∨ (dg = 1 ∧ 0 ≤ v ∧ v < 10) ∨ (dg = 2 ∧ 0 ≤ v ∧ v < 100) ∨ (dg = 3 ∧ 0 ≤ v ∧ v < 1000) ∨ (dg = 4 ∧ 0 ≤ v ∧ v < 10000)) → (tp_num T n most k i v dg).1 < 10000 ∧ (most = 2 → (tp_num T n most k i v dg).1 < 100)
  | 0, i, v, dg, hd, hv => by
    simp only [tp_num]
    split <;> omega
  | k + 1, i, v, dg, hd, hv => by
    simp only [tp_num]
    by_cases h2 : i < n ∧ 48 ≤ T i ∧ T i ≤ 57
    · rw [if_pos h2]
      split
      · simp only []; omega
      · exact tp_num_lt T n most hm k (i + 1) (10 * v + T i - 48) (dg + 1) (by omega) (by omega)
    · rw [if_neg h2]
      split <;> (simp only []; omega)
theorem tp_number_in {T : Int → Int} {n i : Int} (h : i ≤ n) (h0 : 0 ≤ i) (hT : tp_ok T n) {most : Int} (hm : most = 2 ∨ most = 4) : tp_skip T n i ≤ (tp_number T n most i).2 ∧ (tp_number T n most i).2 ≤ n ∧ -1 ≤ (tp_number T n most i).1 ∧ (tp_number T n most i).1 < 10000 ∧ (most = 2 → (tp_number T n most i).1 < 100) ∧ (48 ≤ tp_ch T n (tp_skip T n i) → tp_ch T n (tp_skip T n i) ≤ 57 → tp_skip T n i < (tp_number T n most i).2) := by
  have h1 := tp_skip_ge T n i
  have h2 := tp_skip_le T h
  have h3 := tp_num_in T n most _ (tp_skip T n i) 0 0 rfl h2 (by omega) (by omega)
  have h4 := tp_num_lt T n most hm (n - tp_skip T n i).toNat (tp_skip T n i) 0 0 (by omega) (by omega)
  have h5 := tp_ch_in (i := tp_skip T n i) hT (by omega)
  unfold tp_number
  refine ⟨h3.1, h3.2.1, h3.2.2.1, h4.1, h4.2, fun h6 h7 => ?_⟩
  exact h3.2.2.2 rfl (by omega) (by omega) (by omega) (by omega)
/-- which of them must move on -/
def lp_mv (t : Nat) : Bool := t == 0 || t == 1 || t == 3 || t == 5 || t == 6 || t == 9
/-- how a reading went on from i: not behind the end, not longer a code than what was read -/
def lp_ok (n : Int) (s : Bool) (i : Int) (r : lp_R) : Prop := i ≤ r.2.1 ∧ r.2.1 ≤ n ∧ (r.1 = true → (s = true → i < r.2.1) ∧ (r.2.2.length : Int) ≤ r.2.1 - i)
theorem lp_ok_b {n i j : Int} {s s2 : Bool} {r : lp_R} {f : Int → List Int → lp_R} (h : lp_ok n s j r) (hi : i ≤ j) (hf : r.1 = true → lp_ok n s2 i (f r.2.1 r.2.2)) : lp_ok n s2 i (lp_b r f) := by
  unfold lp_b
  split
  · next e => exact hf e
  · obtain ⟨h1, h2, h3⟩ := h
    exact ⟨by simp only []; omega, h2, fun e => by simp at e⟩
theorem lp_prog (T : Int → Int) (n : Int) (hT : tp_ok T n) : ∀ (F t : Nat) (w i : Int), 0 ≤ i → i ≤ n → t < 10 → lp_ok n (lp_mv t) i (lp T n F t w i)
  | 0, t, w, i, h0, h1, ht => ⟨by simpa [lp] using tp_skip_ge T n i, by simpa [lp] using tp_skip_le T h1, fun e => by simp [lp] at e⟩
  | F + 1, t, w, i, h0, h1, ht => by
    have ih := fun t w i h0 h1 ht => lp_prog T n hT F t w i h0 h1 ht
    have a1 := tp_skip_ge T n i
    have a2 := tp_skip_le T h1
    have a3 := tp_ch_in (i := tp_skip T n i) hT (by omega)
    have a4 := tp_number_in h1 h0 hT (most := 4) (by omega)
    have el : lp_let (-1) = -1 := by decide
    have ee : ∀ (x : Int) (k : Int) (cs : List Int), 0 < x → 0 ≤ k → k ≤ n → i < k → (cs.length : Int) ≤ k - i → lp_ok n true i (lp_e T n x k cs) := by
      intro x k cs hx k0 k1 k2 k3
      have c1 := tp_skip_ge T n k
      have c2 := tp_skip_le T k1
      have c3 := tp_ch_in (i := tp_skip T n k) hT (by omega)
      unfold lp_e
      split
      · exact ⟨by simp only []; omega, by simp only []; omega, fun _ => ⟨fun _ => by simp only []; omega, by simp only []; omega⟩⟩
      · exact ⟨by simp only []; omega, by simp only []; omega, fun e => by simp at e⟩
    have hst : t = 0 ∨ t = 1 ∨ t = 2 ∨ t = 3 ∨ t = 4 ∨ t = 5 ∨ t = 6 ∨ t = 7 ∨ t = 8 ∨ t = 9 := by omega
    have bad : ∀ s, lp_ok n s i (false, tp_skip T n i, []) := fun s => ⟨a1, a2, fun e => by simp at e⟩
    have good : lp_ok n false i (true, tp_skip T n i, []) := ⟨a1, a2, fun _ => ⟨fun e => by simp at e, by simp only [List.length_nil]; omega⟩⟩
    rcases hst with rfl | rfl | rfl | rfl | rfl | rfl | rfl | rfl | rfl | rfl
    · simp only [lp]
      split
      · split
        · exact ⟨by simp only []; omega, by simp only []; omega, fun e => by simp at e⟩
        · exact ⟨by simp only []; omega, by simp only []; omega, fun e => ⟨fun _ => by simp only []; omega, by simp only [List.length_cons, List.length_nil]; omega⟩⟩
      · split
        · next hl =>
          have : tp_ch T n (tp_skip T n i) ≠ -1 := by intro e; rw [e] at hl; exact hl el
          exact ⟨by simp only []; omega, by simp only []; omega, fun e => ⟨fun _ => by simp only []; omega, by simp only [List.length_cons, List.length_nil]; omega⟩⟩
        · split
          · exact bad _
          · next hl =>
            have hr := ih 3 (w + 1) (tp_skip T n i + 1) (by omega) (by omega) (by omega)
            refine lp_ok_b hr (by omega) (fun e => ee _ _ _ (by omega) (by have := hr.1; omega) hr.2.1 (by have := hr.1; omega) ?_)
            have := (hr.2.2 e).2
            omega
    · simp only [lp]
      have hr := ih 0 w (i) (by omega) (by omega) (by omega)
      refine lp_ok_b hr (by omega) (fun e => ?_)
      have hr2 := hr.2.2 e
      have hr3 := hr2.1 rfl
      have hq := ih 2 w (lp T n F 0 w (i)).2.1 (by omega) hr.2.1 (by omega)
      refine lp_ok_b hq (by have := hr.1; omega) (fun e2 => ?_)
      have hq2 := hq.2.2 e2
      have hq3 := hq.1
      have hq4 := hq.2.1
      refine ⟨by simp only []; omega, by simp only []; omega, fun _ => ⟨fun _ => by simp only []; omega, by simp only [List.length_append, List.length_cons, List.length_nil]; omega⟩⟩
    · simp only [lp]
      split
      · next hc =>
        have hr := ih 0 w (tp_skip T n i + 1) (by omega) (by omega) (by omega)
        refine lp_ok_b hr (by omega) (fun e => ?_)
        have hr2 := hr.2.2 e
        have hr3 := hr2.1 rfl
        have hq := ih 2 w (lp T n F 0 w (tp_skip T n i + 1)).2.1 (by omega) hr.2.1 (by omega)
        refine lp_ok_b hq (by have := hr.1; omega) (fun e2 => ?_)
        have hq2 := hq.2.2 e2
        have hq3 := hq.1
        have hq4 := hq.2.1
        refine ⟨by simp only []; omega, by simp only []; omega, fun _ => ⟨fun _ => by simp only []; omega, by simp only [List.length_append, List.length_cons, List.length_nil]; omega⟩⟩
      · exact good
    · simp only [lp]
      have hr := ih 1 w (i) (by omega) (by omega) (by omega)
      refine lp_ok_b hr (by omega) (fun e => ?_)
      have hr2 := hr.2.2 e
      have hr3 := hr2.1 rfl
      have hq := ih 4 w (lp T n F 1 w (i)).2.1 (by omega) hr.2.1 (by omega)
      refine lp_ok_b hq (by have := hr.1; omega) (fun e2 => ?_)
      have hq2 := hq.2.2 e2
      have hq3 := hq.1
      have hq4 := hq.2.1
      refine ⟨by simp only []; omega, by simp only []; omega, fun _ => ⟨fun _ => by simp only []; omega, by simp only [List.length_append, List.length_cons, List.length_nil]; omega⟩⟩
    · simp only [lp]
      split
      · next hc =>
        have hr := ih 1 w (tp_skip T n i + 1) (by omega) (by omega) (by omega)
        refine lp_ok_b hr (by omega) (fun e => ?_)
        have hr2 := hr.2.2 e
        have hr3 := hr2.1 rfl
        have hq := ih 4 w (lp T n F 1 w (tp_skip T n i + 1)).2.1 (by omega) hr.2.1 (by omega)
        refine lp_ok_b hq (by have := hr.1; omega) (fun e2 => ?_)
        have hq2 := hq.2.2 e2
        have hq3 := hq.1
        have hq4 := hq.2.1
        refine ⟨by simp only []; omega, by simp only []; omega, fun _ => ⟨fun _ => by simp only []; omega, by simp only [List.length_append, List.length_cons, List.length_nil]; omega⟩⟩
      · exact good
    · simp only [lp]
      split
      · next hc =>
        have hr := ih 3 w (tp_skip T n i + 1) (by omega) (by omega) (by omega)
        refine lp_ok_b hr (by omega) (fun e => ?_)
        have hr2 := hr.2.2 e
        have hr3 := hr2.1 rfl
        have hr4 := hr.2.1
        refine ⟨by simp only []; omega, by simp only []; omega, fun _ => ⟨fun _ => by simp only []; omega, by simp only [List.length_append, List.length_cons, List.length_nil]; omega⟩⟩
      · exact bad _
    · simp only [lp]
      split
      · split
        · exact bad _
        · have hr := ih 6 (w + 1) (tp_skip T n i + 1) (by omega) (by omega) (by omega)
          refine lp_ok_b hr (by omega) (fun e => ?_)
          have hr2 := hr.2.2 e
          have hr3 := hr2.1 rfl
          have hr4 := hr.2.1
          refine ⟨by simp only []; omega, by simp only []; omega, fun _ => ⟨fun _ => by simp only []; omega, by simp only [List.length_append, List.length_cons, List.length_nil]; omega⟩⟩
      · split
        · split
          · exact bad _
          · have hr := ih 9 (w + 1) (tp_skip T n i + 1) (by omega) (by omega) (by omega)
            refine lp_ok_b hr (by omega) (fun e => ee _ _ _ (by omega) (by have := hr.1; omega) hr.2.1 (by have := hr.1; omega) ?_)
            have := (hr.2.2 e).2
            omega
        · skip
          have hr := ih 3 w (i) (by omega) (by omega) (by omega)
          refine lp_ok_b hr (by omega) (fun e => ?_)
          have hr2 := hr.2.2 e
          have hr3 := hr2.1 rfl
          have hq := ih 5 w (lp T n F 3 w (i)).2.1 (by omega) hr.2.1 (by omega)
          refine lp_ok_b hq (by have := hr.1; omega) (fun e2 => ?_)
          have hq2 := hq.2.2 e2
          have hq3 := hq.1
          have hq4 := hq.2.1
          refine ⟨by simp only []; omega, by simp only []; omega, fun _ => ⟨fun _ => by simp only []; omega, by simp only [List.length_append, List.length_cons, List.length_nil]; omega⟩⟩
    · simp only [lp]
      split
      · next hc =>
        have hr := ih 6 w (tp_skip T n i + 1) (by omega) (by omega) (by omega)
        refine lp_ok_b hr (by omega) (fun e => ?_)
        have hr2 := hr.2.2 e
        have hr3 := hr2.1 rfl
        have hq := ih 7 w (lp T n F 6 w (tp_skip T n i + 1)).2.1 (by omega) hr.2.1 (by omega)
        refine lp_ok_b hq (by have := hr.1; omega) (fun e2 => ?_)
        have hq2 := hq.2.2 e2
        have hq3 := hq.1
        have hq4 := hq.2.1
        refine ⟨by simp only []; omega, by simp only []; omega, fun _ => ⟨fun _ => by simp only []; omega, by simp only [List.length_append, List.length_cons, List.length_nil]; omega⟩⟩
      · exact good
    · simp only [lp]
      split
      · next hc =>
        have hr := ih 6 w (tp_skip T n i + 1) (by omega) (by omega) (by omega)
        refine lp_ok_b hr (by omega) (fun e => ?_)
        have hr2 := hr.2.2 e
        have hr3 := hr2.1 rfl
        have hq := ih 7 w (lp T n F 6 w (tp_skip T n i + 1)).2.1 (by omega) hr.2.1 (by omega)
        refine lp_ok_b hq (by have := hr.1; omega) (fun e2 => ?_)
        have hq2 := hq.2.2 e2
        have hq3 := hq.1
        have hu := ih 8 w (lp T n F 7 w (lp T n F 6 w (tp_skip T n i + 1)).2.1).2.1 (by omega) hq.2.1 (by omega)
        refine lp_ok_b hu (by omega) (fun e3 => ?_)
        have hu2 := hu.2.2 e3
        have hu3 := hu.1
        have hu4 := hu.2.1
        refine ⟨by simp only []; omega, by simp only []; omega, fun _ => ⟨fun _ => by simp only []; omega, by simp only [List.length_append, List.length_cons, List.length_nil]; omega⟩⟩
      · exact good
    · simp only [lp]
      have hr := ih 6 w (i) (by omega) (by omega) (by omega)
      refine lp_ok_b hr (by omega) (fun e => ?_)
      have hr2 := hr.2.2 e
      have hr3 := hr2.1 rfl
      have hq := ih 7 w (lp T n F 6 w (i)).2.1 (by omega) hr.2.1 (by omega)
      refine lp_ok_b hq (by have := hr.1; omega) (fun e2 => ?_)
      have hq2 := hq.2.2 e2
      have hq3 := hq.1
      have hu := ih 8 w (lp T n F 7 w (lp T n F 6 w (i)).2.1).2.1 (by omega) hq.2.1 (by omega)
      refine lp_ok_b hu (by omega) (fun e3 => ?_)
      have hu2 := hu.2.2 e3
      have hu3 := hu.1
      have hu4 := hu.2.1
      refine ⟨by simp only []; omega, by simp only []; omega, fun _ => ⟨fun _ => by simp only []; omega, by simp only [List.length_append, List.length_cons, List.length_nil]; omega⟩⟩
