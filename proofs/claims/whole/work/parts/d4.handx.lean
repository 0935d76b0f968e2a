/-! ===== the class's hand where it throws ===== -/
/-- what a throw of hand needs of the law's first state -/
def lh_ok (g : sk_G) : Prop := g.1.stackTraces = false ∧ (∃ sa : Nat, vk_R RX11 156 "no such hand or what" sa g.2.1) ∧ vx_Zq Bundle.tN "UNASSIGNED_STACK" Bundle.steD (sk_fr g) g.2.1 g.2.1.heap ∧ vx_Zq Bundle.tN "SUPPRESSED_SENTINEL" Bundle.listD (sk_fr g) g.2.1 g.2.1.heap
theorem lh_in : ∀ w ∈ Cond.classLink RX11 154 lh_N :: Cond.initialized lh_N :: Cond.classLink RL 13 lh_N :: lh_at.filter vx_no, w ∈ lw_tbl := by decide +kernel
def lh_ng : List Cond := [.declares (Bundle.initS lh_R), .declares (Bundle.initS "java/lang/Exception"), .declares (Bundle.initS Bundle.tN), .castable lh_N lh_N]
theorem lh_ngs : ∀ w ∈ lh_at.filter vx_no, goodWord w = true ∨ w ∈ lh_ng := by decide +kernel
theorem lh_word {g : sk_G} {s : State} (hg : sk_ok g) (hW : g.2.1.WarmedH s.vm) (args : Array Value) : ∀ w ∈ lh_at.filter vx_no, w.before args s = true := by
  intro w hw
  have hin := lh_in w (List.mem_cons_of_mem _ (List.mem_cons_of_mem _ (List.mem_cons_of_mem _ hw)))
  rcases lh_ngs w hw with h | h
  · exact sk_use hin h hg hW args
  · obtain ⟨-, -, ⟨b, h2⟩, -⟩ := hg
    have h3 := h2 w hin
    simp only [lh_ng, List.mem_cons, List.not_mem_nil, or_false] at h
    rcases h with rfl | rfl | rfl | rfl
    · exact va_any rfl (va_Nw.warmD hW (va_Nw.of rfl h3))
    · exact va_any rfl (va_Nw.warmD hW (va_Nw.of rfl h3))
    · exact va_any rfl (va_Nw.warmD hW (va_Nw.of rfl h3))
    · exact va_any rfl (va_Nw.warmC hW (va_Nw.of rfl h3))
/-- how hand throws -/
def lh_XC (g : sk_G) (M : sk_M) : String → State → State → Prop := fun E s t => E = lh_N ∧ sk_H g (t.heap.size, M.2) t.heap ∧ M.1 ≤ t.heap.size
theorem sk_H_grow {g : sk_G} {M : sk_M} {H H1 : Heap} (h : sk_H g M H) (hs : H.size ≤ H1.size) (hk : ∀ q : Nat, q < H.size → H1[q]? = H[q]?) : sk_H g (H1.size, M.2) H1 := by
  obtain ⟨a1, a2, a3, a4⟩ := h
  refine ⟨rfl, by show sk_base g ≤ H1.size; omega, fun q hq => (hk q (by omega)).trans (a3 q hq), fun a ha => ⟨?_, (a4 a ha).2⟩⟩
  obtain ⟨b1, b2, b3⟩ := (a4 a ha).1
  have key : ∀ (x : Cell), H[a]? = some x → H1[a]? = some x := fun x hx => (hk a (Array.getElem?_eq_some_iff.mp hx).1).trans hx
  refine ⟨fun h => ?_, fun h h2 => key _ (b2 h h2), fun h h2 => ?_⟩
  · obtain ⟨r, hr, cell, c1, c2⟩ := b1 h
    exact ⟨r, hr, cell, key _ c1, c2⟩
  · obtain ⟨cell, c1, c2⟩ := b3 h h2
    exact ⟨cell, key _ c1, c2⟩
/-- no row of the table; the start heap as the law found it -/
def lh_E (g : sk_G) (M : sk_M) : State → Code → Prop := fun s c => (∀ x ∈ c.exceptionTable.toList, False) ∧ s.heap.size = M.1 ∧ ∀ q : Nat, q < sk_base g → s.heap[q]? = g.2.1.heap[q]?
def lh_PM (g : sk_G) (M : sk_M) (Q : sk_P) : sk_PM := fun below args s mc ms => vx_MQ below (sk_Q g Q) (lh_XC g M) args s mc ms (sk_fr g)
section HANDX
variable {g : sk_G} {d ck sk : Nat} {M : sk_M} {Q : sk_P} {L : List (Option sk_V)} {A ra : Nat} {R H : Int → Int} {hands h2 sc dr a b : Int}
theorem sg_throw (hok : lh_ok g) (hd : 6 ≤ d) (hck : 1 ≤ ck) (hsk : 6 ≤ sk) : sk_BG (lh_E g M) (lh_PM g M Q) (g, d, ck, sk, xX11_hand, Q) 20 L [] M := by
  intro p e s m args below meth c H locs cells slots mc ms ls hC hE h1 h2 hH hLo hl
  obtain ⟨hx, hb, -, hml, hlk, hown, -, hW, hg⟩ := hC
  obtain ⟨e1, e2, e3⟩ := hE
  obtain ⟨k1, ⟨sa, k2⟩, k3, k4⟩ := hok
  have hn : ∀ q : Nat, q < g.2.1.heap.size → ¬ sk_fr g q → s.heap[q]? = g.2.1.heap[q]? := fun q _ h => e3 q (Nat.lt_of_not_le h)
  refine lh_throw hx hb k1 hown (sk_use (lh_in _ List.mem_cons_self) rfl hg hW args) (sk_use (lh_in _ (List.mem_cons_of_mem _ List.mem_cons_self)) rfl hg hW args) (vk_R.warm hW k2) (lh_word hg hW args) ((k3.kept hn).moved hW.alike) ((k4.kept hn).moved hW.alike) ⟨?_, fun q hq hf => ?_, hLo⟩ (hl.1.trans hml.symm) (fun x hx => (e1 x hx).elim) ?_ ?_ ?_ ?_ hlk (fun t ht hs hk => ⟨rfl, sk_H_grow hH hs hk, ?_⟩) hLo ?_ ?_
  · rw [e2, hH.1]; exact Nat.le_refl _
  · exact (hH.2.2.1 q (Nat.lt_of_not_le hf)).trans (e3 q (Nat.lt_of_not_le hf)).symm
  · show 5 < d; omega
  · show 0 + 82 ≤ 80 * d; omega
  · show cells + 1 ≤ mc
    have : cells + ck ≤ mc := h1
    omega
  · show slots + 6 ≤ ms
    have : slots + sk ≤ ms := h2
    omega
  · rw [← hH.1]; exact hs
  · have : cells + ck ≤ mc := h1
    omega
  · have : slots + sk ≤ ms := h2
    omega
end HANDX
