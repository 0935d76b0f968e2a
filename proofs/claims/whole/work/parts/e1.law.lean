/-! ===== the law as a whole, over a start picture ===== -/
section LAWALL
variable {g : sk_G} {d ck sk : Nat} {bs N A : Nat} {scr : Int → Int} {m : Nat → sk_C}
theorem l_law (hg : sk_ok g) (hok : lh_ok g) (hd : 127 ≤ d) (hck : 46173 ≤ ck) (hsk : 4457027 ≤ sk) (hN : N ≤ 3072) (hi : ∀ j, i32 (scr j)) (hs : m bs = (30, N, sk_I scr)) (hb : bs < A) (h1 : st_at g (A, m)) (h2 : sbd_at g (A, m)) (h3 : ∀ k, k < 6 → g.2.2.2.2 k < A) :
    sk_B (g, d, ck, sk, xL_law, fun v _ => v = some (.inl 1)) 0 [some (.inr (.inr (some bs))), none, none, none, none, none, none] [] (A, m) :=
  l_0 hd hck hsk hs hb h1 h2 h3 (fun ck' sk' M' c1 c2 hJ => l_loop hd hN hi (fun _ => rfl) (fun ck2 sk2 k M2 k1 k2 hJ2 k5 k0 kN hn => lc_hand hg hok hd hN hi k1 k2 hJ2 k5 k0 kN hn) 512 ck' sk' 0 M' rfl (Int.le_refl 0) c1 c2 hJ)
end LAWALL
section ROOM
variable {p : Program} {l : Launch} {e : Env} {R R' : Room} {s : State} {m : MethodId} {args : Array Value} {below : List Frame} {meth : Method} {c : Code} {T : State} {H : Heap} {locs : List Loc} {cells slots : Nat} {Q : State → Prop} {g : JFrame}
theorem sk_hasRoom {pl : Platform} (h : s.hasRoom pl R = true) (h1 : R'.frames ≤ R.frames) (h2 : R'.cells ≤ R.cells) (h3 : R'.slots ≤ R.slots) (h4 : R'.locals ≤ R.locals) : s.hasRoom pl R' = true := by
  simp only [State.hasRoom, Bool.and_eq_true, decide_eq_true_eq] at h ⊢
  obtain ⟨⟨⟨⟨a1, a2, a3, a4, a5, a6⟩, a7⟩, a8⟩, a9⟩ := h
  exact ⟨⟨⟨⟨by omega, by omega, by omega, by omega, by omega, a6⟩, by omega⟩, by omega⟩, a9⟩
theorem W_room (h1 : R'.frames ≤ R.frames) (h2 : R'.cells ≤ R.cells) (h3 : R'.slots ≤ R.slots) (h4 : R'.locals ≤ R.locals) (k : W p l e R' s m args below meth c H locs cells slots Q g) : W p l e R s m args below meth c H locs cells slots Q g :=
  fun T hT X => k T hT ⟨X.admits, X.cas, X.clock, X.frames, sk_hasRoom X.room h1 h2 h3 h4, X.hears, X.method, X.code, X.here, X.tail, X.warmed, X.limits, X.bytes, X.same⟩
end ROOM
/-- a static array: its cell, exactly -/
theorem sw_arr {args : Array Value} {s : State} {tm : Term} {N : Nat} {f : Nat → Int32} (harr : (Cond.arrayOf tm .int).before args s = true) (hlen : (Term.length tm).eval args s none [] s = some (.int (Int32.ofNat N))) (hN : N < 2 ^ 31) (hel : ∀ j : Nat, j < N → (Term.elem tm (.int (Int32.ofNat j))).eval args s none [] s = some (.int (f j))) :
    ∃ (t : Nat) (cell : Cell), tm.eval args s none [] s = some (.ref t) ∧ s.heap[t]? = some cell ∧ s.isArrayOf cell .int ∧ cell.vm ≠ .unknown ∧ cell.slots.size = N ∧ ∀ j : Nat, j < N → cell.slots[j]? = some (.int (f j)) := by
  obtain ⟨t, ht, cell, h1, h2, h3, h4, h5, h6, -⟩ := va_Tof (A := fun _ => False) hN harr hlen hel (fun _ _ h => h)
  obtain ⟨t2, cell2, ht2, hat, hv⟩ := Term.length_spec hlen
  cases ht.symm.trans ht2
  obtain ⟨hcell, -, -, -⟩ := State.arrayAt?_spec hat
  cases h1.symm.trans hcell
  have hsz : cell.slots.size < 2 ^ 31 := by
    simp only [Term.eval, ht, hat, Option.bind_eq_bind, Option.bind_some] at hlen
    by_cases hlt : cell.slots.size < 2147483648
    · exact hlt
    · simp [hlt] at hlen
  have e : Int32.ofNat cell.slots.size = Int32.ofNat N := h5
  have e2 := congrArg Int32.toNatClampNeg e
  rw [Int32.toNatClampNeg_ofNat_of_lt hsz, Int32.toNatClampNeg_ofNat_of_lt hN] at e2
  exact ⟨t, cell, ht, h1, h2, h3, e2, h6⟩
