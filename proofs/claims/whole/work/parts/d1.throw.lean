theorem dX11_hand_0 : decode cX11_hand 0 = .ok (.aload_n 0, 1) := by decide +kernel
theorem dX11_hand_1 : decode cX11_hand 1 = .ok (.getfield 19, 3) := by decide +kernel
theorem dX11_hand_4 : decode cX11_hand 4 = .ok (.iload_n 1, 1) := by decide +kernel
theorem dX11_hand_5 : decode cX11_hand 5 = .ok (.invokevirtual 151, 3) := by decide +kernel
theorem dX11_hand_8 : decode cX11_hand 8 = .ok (.ifCond .eq 12, 3) := by decide +kernel
theorem dX11_hand_11 : decode cX11_hand 11 = .ok (.iload_n 2, 1) := by decide +kernel
theorem dX11_hand_12 : decode cX11_hand 12 = .ok (.ifCond .lt 8, 3) := by decide +kernel
theorem dX11_hand_15 : decode cX11_hand 15 = .ok (.iload_n 2, 1) := by decide +kernel
theorem dX11_hand_16 : decode cX11_hand 16 = .ok (.iconst 3, 1) := by decide +kernel
theorem dX11_hand_17 : decode cX11_hand 17 = .ok (.if_icmp .le 13, 3) := by decide +kernel
theorem dX11_hand_20 : decode cX11_hand 20 = .ok (.new 154, 3) := by decide +kernel
theorem dX11_hand_23 : decode cX11_hand 23 = .ok (.dup, 1) := by decide +kernel
theorem dX11_hand_24 : decode cX11_hand 24 = .ok (.ldc 156, 2) := by decide +kernel
theorem dX11_hand_26 : decode cX11_hand 26 = .ok (.invokespecial 158, 3) := by decide +kernel
theorem dX11_hand_29 : decode cX11_hand 29 = .ok (.athrow, 1) := by decide +kernel
theorem dX11_hand_30 : decode cX11_hand 30 = .ok (.iload_n 2, 1) := by decide +kernel
theorem dX11_hand_31 : decode cX11_hand 31 = .ok (.iconst 2, 1) := by decide +kernel
theorem dX11_hand_32 : decode cX11_hand 32 = .ok (.if_icmp .ge 13, 3) := by decide +kernel
theorem dX11_hand_35 : decode cX11_hand 35 = .ok (.aload_n 0, 1) := by decide +kernel
theorem dX11_hand_36 : decode cX11_hand 36 = .ok (.getfield 19, 3) := by decide +kernel
theorem dX11_hand_39 : decode cX11_hand 39 = .ok (.iload_n 1, 1) := by decide +kernel
theorem dX11_hand_40 : decode cX11_hand 40 = .ok (.iload_n 2, 1) := by decide +kernel
theorem dX11_hand_41 : decode cX11_hand 41 = .ok (.invokevirtual 161, 3) := by decide +kernel
theorem dX11_hand_44 : decode cX11_hand 44 = .ok (.ireturn, 1) := by decide +kernel
theorem dX11_hand_45 : decode cX11_hand 45 = .ok (.iload_n 2, 1) := by decide +kernel
theorem dX11_hand_46 : decode cX11_hand 46 = .ok (.iconst 2, 1) := by decide +kernel
theorem dX11_hand_47 : decode cX11_hand 47 = .ok (.if_icmp .ne 14, 3) := by decide +kernel
theorem dX11_hand_50 : decode cX11_hand 50 = .ok (.aload_n 0, 1) := by decide +kernel
theorem dX11_hand_51 : decode cX11_hand 51 = .ok (.getfield 36, 3) := by decide +kernel
theorem dX11_hand_54 : decode cX11_hand 54 = .ok (.iload_n 1, 1) := by decide +kernel
theorem dX11_hand_55 : decode cX11_hand 55 = .ok (.invokevirtual 165, 3) := by decide +kernel
theorem dX11_hand_58 : decode cX11_hand 58 = .ok (.goto 11, 3) := by decide +kernel
theorem dX11_hand_61 : decode cX11_hand 61 = .ok (.aload_n 0, 1) := by decide +kernel
theorem dX11_hand_62 : decode cX11_hand 62 = .ok (.getfield 36, 3) := by decide +kernel
theorem dX11_hand_65 : decode cX11_hand 65 = .ok (.iload_n 1, 1) := by decide +kernel
theorem dX11_hand_66 : decode cX11_hand 66 = .ok (.invokevirtual 168, 3) := by decide +kernel
theorem dX11_hand_69 : decode cX11_hand 69 = .ok (.ireturn, 1) := by decide +kernel
theorem lh_good : ∀ w ∈ Cond.classLink RX11 154 lh_N :: Cond.initialized lh_N :: lh_at.filter vx_no, vx_ot w = true := by decide +kernel
section THROW
variable {p : Program} {l : Launch} {e : Env} {R : Room} {s : State} {m : MethodId} {args : Array Value} {below : List Frame} {meth : Method} {c : Code} {H : Heap} {locs : List Loc} {cells slots : Nat}
variable {mc ms sa : Nat} {free : Addr → Prop} {A : Nat → Prop} {ls : Array Slot} {rest : List Value} {Qc : Array Value → State → Outcome → State → Prop} {XC : String → State → State → Prop}
/-- 'throw new NoSuchElementException("no such hand or what")'; follows vx_throwS -/
theorem lh_throw (hexec : p.tables.exec = Jvm.exec) (hb : c.code = cX11_hand) (hl : l.stackTraces = false) (hown : s.vm.findClass RX11 = some m.cls)
    (hk : (Cond.classLink RX11 154 lh_N).before args s = true) (hini : (Cond.initialized lh_N).before args s = true) (hstr : vk_R RX11 156 "no such hand or what" sa s) (hat : ∀ w ∈ lh_at.filter vx_no, w.before args s = true)
    (hU : vx_Zq Bundle.tN "UNASSIGNED_STACK" Bundle.steD A s s.heap) (hN : vx_Zq Bundle.tN "SUPPRESSED_SENTINEL" Bundle.listD A s s.heap) (hS : va_S A s.heap H locs) (hsize : ls.size = c.maxLocals)
    (hout : ∀ x ∈ c.exceptionTable.toList, covers x 29 = false)
    (hRframes : 5 < R.frames) (hRlocals : (rest.map fun v => v.category).sum + 82 ≤ R.locals) (hRcells : cells + 1 ≤ R.cells) (hRslots : slots + 6 ≤ R.slots) (hlocks : meth.locks = false)
    (hx : ∀ t : State, s.vm.Alike t.vm → H.size ≤ t.heap.size → (∀ q : Nat, q < H.size → t.heap[q]? = H[q]?) → XC lh_N s t)
    (hf : ∀ z ∈ locs, free z.base) (hc : cells + 1 ≤ mc) (hs : slots + 6 ≤ ms) :
    W p l e R s m args below meth c H locs cells slots (vx_MQ below Qc XC args s mc ms free) (F0 m 20 ls rest) := by
  have hgood := lh_good
  have d0 := dX11_hand_20
  have d3 := dX11_hand_23
  have d4 := dX11_hand_24
  have d6 := dX11_hand_26
  have d9 := dX11_hand_29
  intro T hT X
  have htr : e.platform.stackTraces = false := (show e.platform.stackTraces = l.stackTraces by rw [X.admits.platform]).trans hl
  have Y := vx_rebase X (R' := { frames := R.frames, locals := R.locals, cells := 1, slots := 6 }) (Nat.le_refl _) (Nat.le_refl _) hRcells hRslots
  obtain ⟨s', hA⟩ : ∃ z, z = (T.setVm s.vm).setFrames (.invoking m args :: below) := ⟨_, rfl⟩
  rw [← hA] at Y
  have hvm : s'.vm = s.vm := by rw [hA]; rfl
  have hhp : s'.heap = H := by rw [hA]; exact hT
  have hW0 : s.WarmedH s'.vm := by rw [hvm]; exact State.WarmedH.refl s
  have hat' : ∀ w ∈ lh_at.filter vx_no, w.before args s' = true := fun w hw => vx_ot_at hW0 hvm.symm (hgood w (List.mem_cons_of_mem _ (List.mem_cons_of_mem _ hw))) (hat w hw)
  have hk' : (Cond.classLink RX11 154 lh_N).before args s' = true := vx_ot_at hW0 hvm.symm (hgood _ List.mem_cons_self) hk
  have hini' : (Cond.initialized lh_N).before args s' = true := vx_ot_at hW0 hvm.symm (hgood _ (List.mem_cons_of_mem _ List.mem_cons_self)) hini
  have hU' : vx_Zq Bundle.tN "UNASSIGNED_STACK" Bundle.steD A s' s'.heap := by rw [hhp]; exact vx_Zq.moved hW0.alike (hU.kept hS.2.1)
  have hN' : vx_Zq Bundle.tN "SUPPRESSED_SENTINEL" Bundle.listD A s' s'.heap := by rw [hhp]; exact vx_Zq.moved hW0.alike (hN.kept hS.2.1)
  have h : ∀ w ∈ lh_at, w.before args s' = true := vx_own hat' (vx_isRefq hU'.1) (vx_isRefq hN'.1) hU'.2.word hN'.2.word
  have hown' : s'.vm.findClass RX11 = some m.cls := by rw [hvm]; exact hown
  have hins : (Cond.instantiable lh_N 6).before args s' = true := h _ (by simp [lh_at])
  obtain ⟨vm₁, cX, kX, hfX, hkX, -, -, X₁, st1⟩ := Y.newCold hexec (own := RX11) (C := lh_N) (index := 154) (n := 6) hown' hk' hins hini'
    (g := F0 m 20 ls rest) rfl (by rw [hb]; exact d0) (Nat.le_refl _) (Nat.le_refl _)
  generalize hT1 : (T.setVm vm₁).pushCell { cls := cX, slots := kX.instanceTypes.map defaultValue, vm := .none } = T1 at X₁ st1
  have hcat : (Value.ref T.heap.size).category = 1 := rfl
  have hcellA : T1.heap[T.heap.size]? = some (freshCell cX kX) := by rw [← hT1]; exact State.heap_pushCell_size _ _
  have d3' : decode c.code (23) = .ok (.dup, 1) := by rw [hb]; exact d3
  have d4' : decode c.code (24) = .ok (.ldc 156, 2) := by rw [hb]; exact d4
  have hstr' : vk_R RX11 156 "no such hand or what" sa s' := vk_R.warm hW0 hstr
  obtain ⟨U, hsteps, hrun, hend, hW, hsame, ce, hce, hO, hOv⟩ := lh_ctor X₁ hexec htr hown' h (fun x hx => nomatch hx) hfX hkX hcellA (by rw [hhp, hT]; exact Nat.le_refl _) (msg := .ref sa) rfl
    (g := { method := m, pc := 26, locals := ls, stack := .ref sa :: .ref T.heap.size :: .ref T.heap.size :: rest, locked := none }) rfl hsize rfl rfl (rest := rest) rfl
    (by rw [hb]; exact d6) (by rw [hb]; exact d9) hout hRframes (by simp only [List.map_cons, List.sum_cons, hcat]; omega) hlocks
  obtain ⟨f1, f2⟩ := vx_frame hsame
  rw [hhp] at f1 f2
  have hWs : s.WarmedH U.vm := State.WarmedH.trans hW0 hW
  have hcl : s.vm.findClass lh_N = some ce.cls := by
    have h9 := hO
    rw [hvm] at h9
    exact h9
  have hall : s.sameButNew ({ U with vm := s.vm } : State) locs mc ms := by
    subst hA
    obtain ⟨e1, e2⟩ := hsame
    rw [State.setFrames_setFrames] at e1
    have h2 : (T.setVm s.vm).sameButNew ({ U with vm := s.vm } : State) [] (0 + 1) (0 + 6) := ⟨e1, e2⟩
    have h3 := X.same.trans h2
    rw [List.append_nil] at h3
    exact h3.mono hc hs
  refine ⟨U, ?_, .threw T.heap.size, hrun, hend, Or.inr ⟨T.heap.size, rfl, lh_N, ce, locs, hx U hWs.alike f1 (fun q hq => f2 q hq (fun z hz => nomatch hz)), hce, hOv, hcl, hWs, hall, hf⟩⟩
  refine st1 _ ?_
  show Steps p.tables e below (T1.setTop { method := m, pc := 23, locals := ls, stack := .ref T.heap.size :: rest, locked := none }) _
  jvm_step X₁.here [X₁.here.top, hexec, d3', Value.category]
  exact X₁.ldcString hexec (own := RX11) (text := "no such hand or what") (index := 156) (a := sa) hown' hstr'.1 hstr'.2
    (g := { method := m, pc := 24, locals := ls, stack := .ref T.heap.size :: .ref T.heap.size :: rest, locked := none }) rfl d4' _ hsteps
end THROW
