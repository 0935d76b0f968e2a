/-! ===== the picture: values, cells, heaps ===== -/
/-- a value: an int, a long, a reference or null -/
abbrev sk_V : Type := Int ⊕ Int ⊕ Option Nat
def sk_val (v : sk_V) : Value := match v with
  | .inl x => .int (Int32.ofInt x)
  | .inr (.inl x) => .long (Int64.ofInt x)
  | .inr (.inr r) => va_rf r
/-- a cell: its kind, its length, what it holds -/
abbrev sk_C : Type := Nat × Nat × (Nat → sk_V)
/-- a heap: the next address, the cells -/
abbrev sk_M : Type := Nat × (Nat → sk_C)
/-- launch, the law's first state, numbers of the kinds of objects, of arrays, addresses of old cells -/
abbrev sk_G : Type := Launch × State × va_G × (Nat → ClassId) × (Nat → Nat)
abbrev sk_X : Type := MethodName × ByteArray × Nat × Option FieldType
abbrev sk_P : Type := Option sk_V → sk_M → Prop
/-- gamma, frames left, cells left, slots left, the method, what must hold behind it -/
abbrev sk_W : Type := sk_G × Nat × Nat × Nat × sk_X × sk_P
abbrev sk_K : Type := List (Option sk_V) → List sk_V → sk_M → Prop
abbrev sk_base (g : sk_G) : Nat := g.2.1.heap.size
def sk_ty : Nat → FieldType
  | 21 => .boolean
  | 22 => .long
  | 23 => .object "ScrapedSkin$Page"
  | 24 => .object "ScrapedSkin$Law"
  | 25 => .object "ScrapedSkin$Writing"
  | 26 => .byte
  | _ => .int
def sk_at (g : sk_G) (a : Nat) (c : sk_C) (H : Heap) : Prop :=
  (c.1 < 20 → ∃ r : vw_C, vwCl[c.1]? = some r ∧ t_OB a (g.2.2.1.1 c.1) r.2.2 (g.2.2.1.2 c.1) H (fun j => sk_val (c.2.2 j))) ∧
  (20 ≤ c.1 → c.1 < 30 → H[a]? = some (arrV (g.2.2.2.1 c.1) c.2.1 (fun j => sk_val (c.2.2 j)))) ∧
  (30 ≤ c.1 → c.1 < 40 → ∃ cell : Cell, H[a]? = some cell ∧ g.2.1.isArrayOf cell .int ∧ cell.vm ≠ .unknown ∧ cell.slots.size = c.2.1 ∧ c.2.1 < 2 ^ 31 ∧ ∀ j : Nat, j < c.2.1 → cell.slots[j]? = some (sk_val (c.2.2 j)))
def sk_H (g : sk_G) (M : sk_M) (H : Heap) : Prop :=
  H.size = M.1 ∧ sk_base g ≤ M.1 ∧ (∀ q : Nat, q < sk_base g → H[q]? = g.2.1.heap[q]?) ∧ ∀ a : Nat, (M.2 a).1 < 40 → sk_at g a (M.2 a) H ∧ ((M.2 a).1 < 30 → sk_base g ≤ a)
def sk_R (d mc ms : Nat) : Room := { frames := d, cells := mc, slots := ms, locals := 80 * d }
/-- the static arrays of Rules -/
def sk_sn : Nat → String
  | 0 => "RULE_BOUNDS"
  | 1 => "HAND_BOUNDS"
  | 2 => "LINE_DOWN"
  | 3 => "LINE_RIGHT"
  | 4 => "SIGN_DOWN"
  | _ => "SIGN_RIGHT"
/-- the texts: where they are named, their lengths, their bytes -/
def sk_so : Nat → String × Nat × String
  | 0 => ("ScrapedSkin$Rules", 43, "wrlk")
  | 1 => ("ScrapedSkin$Rules", 52, "if")
  | 2 => ("ScrapedSkin$Law", 39, "!(")
  | 3 => ("ScrapedSkin$Law", 89, "sdfiry")
  | 4 => ("ScrapedSkin$Law", 79, "*/")
  | 5 => ("ScrapedSkin$Law", 74, "+-")
  | _ => ("ScrapedSkin$Law", 49, "=<>")
def sk_sl : List Nat := [4, 2, 2, 6, 2, 2, 3]
def sk_sb : List (List Int32) := [[119, 114, 108, 107], [105, 102], [33, 40], [115, 100, 102, 105, 114, 121], [42, 47], [43, 45], [61, 60, 62]]
/-- what is known of the tables at the law's start -/
def sk_ok (g : sk_G) : Prop := va_K g.2.2.1 vwCl [] g.2.1 ∧ (∀ k : Nat, 20 ≤ k → k < 26 → ArrOfT g.2.1 (g.2.2.2.1 k) (sk_ty k) ∧ va_RA g.2.1 (g.2.2.2.1 k) (sk_ty k)) ∧ (∃ a : Array Value, ∀ x ∈ lw_tbl, x.before a g.2.1 = true) ∧
  (∀ k : Nat, k < 6 → va_Z "ScrapedSkin$Rules" (sk_sn k) "[I" (.ref (g.2.2.2.2 k)) (fun q => sk_base g ≤ q) g.2.1 g.2.1.heap) ∧
  vk_S 7 sk_sl sk_sb (fun i => g.2.2.2.2 (10 + i)) (fun i => g.2.2.2.2 (20 + i)) (fun q => sk_base g ≤ q) g.2.1 g.2.1.heap ∧
  (∀ k : Nat, k < 7 → vk_R (sk_so k).1 (sk_so k).2.1 (sk_so k).2.2 (g.2.2.2.2 (10 + k)) g.2.1) ∧
  va_Z "java/lang/String" "COMPACT_STRINGS" "Z" (.int 1) (fun q => sk_base g ≤ q) g.2.1 g.2.1.heap
/-- what is known of the method that runs -/
def sk_Cx (g : sk_G) (X : sk_X) (p : Program) (s : State) (m : MethodId) (meth : Method) (c : Code) : Prop :=
  p.tables.exec = Jvm.exec ∧ c.code = X.2.1 ∧ meth.sig.returnType = X.2.2.2 ∧ c.maxLocals = X.2.2.1 ∧ meth.locks = false ∧ s.vm.findClass X.1.cls = some m.cls ∧ meth.name = X.1.name ∧ g.2.1.WarmedH s.vm ∧ sk_ok g
def sk_Lo (g : sk_G) (locs : List Loc) : Prop := ∀ q ∈ locs, sk_base g ≤ q.base
def sk_fr (g : sk_G) : Addr → Prop := fun q => sk_base g ≤ q
def sk_Q (g : sk_G) (Q : sk_P) : Array Value → State → Outcome → State → Prop := fun _ _ o t =>
  ∃ (v : Option sk_V) (M : sk_M), o = .returned (v.map sk_val) ∧ sk_H g M t.heap ∧ g.2.1.WarmedH t.vm ∧ Q v M
def sk_lv : Nat → List (Option sk_V) → List (Nat × Value)
  | _, [] => []
  | i, none :: r => sk_lv (i + 1) r
  | i, some v :: r => (i, sk_val v) :: sk_lv (i + 1) r
/-- THE JUDGEMENT: from the frame at pc with these values, over this picture, the method comes to its end with its post -/
def sk_B (w : sk_W) (pc : Nat) : sk_K := fun L st M =>
  ∀ (p : Program) (e : Env) (s : State) (m : MethodId) (args : Array Value) (below : List Frame) (meth : Method) (c : Code) (H : Heap) (locs : List Loc) (cells slots mc ms : Nat) (ls : Array Slot),
    sk_Cx w.1 w.2.2.2.2.1 p s m meth c → cells + w.2.2.1 ≤ mc → slots + w.2.2.2.1 ≤ ms → sk_H w.1 M H → sk_Lo w.1 locs → lv_has ls w.2.2.2.2.1.2.2.1 (sk_lv 0 L) →
    W p w.1.1 e (sk_R w.2.1 mc ms) s m args below meth c H locs cells slots (MQ below (sk_Q w.1 w.2.2.2.2.2) args s mc ms (sk_fr w.1)) (F0 m pc ls (st.map sk_val))
/-- k is enough at pc -/
def sk_S (w : sk_W) (pc : Nat) (k : sk_K) : Prop := ∀ (L : List (Option sk_V)) (st : List sk_V) (M : sk_M), k L st M → sk_B w pc L st M
theorem sk_id {w : sk_W} {pc : Nat} : sk_S w pc (sk_B w pc) := fun _ _ _ h => h
/-- a word of the tables, at every state of the run -/
theorem sk_use {g : sk_G} {x : Cond} {s : State} (h : x ∈ lw_tbl) (h1 : goodWord x = true) (hg : sk_ok g) (hW : g.2.1.WarmedH s.vm) (a : Array Value) : x.before a s = true := by
  obtain ⟨-, -, ⟨b, h2⟩, -⟩ := hg
  exact word_at hW (good_of_word h1) (h2 x h)
theorem sk_useF {g : sk_G} {a : String} {i : Nat} {b n d h : String} {s : State} (hx : Cond.fieldLinkNest a i b n d h ∈ lw_tbl) (hg : sk_ok g) (hW : g.2.1.WarmedH s.vm) : va_Nw (.fieldLinkNest a i b n d h) s := by
  obtain ⟨-, -, ⟨v, h2⟩, -⟩ := hg
  exact (va_Nw.of rfl (h2 _ hx)).warmF hW
theorem sk_useM {g : sk_G} {a : String} {i : Nat} {x : MethodName} {h : String} {s : State} (hx : Cond.methodLinkNest a i x h ∈ lw_tbl) (hg : sk_ok g) (hW : g.2.1.WarmedH s.vm) : va_Nw (.methodLinkNest a i x h) s := by
  obtain ⟨-, -, ⟨v, h2⟩, -⟩ := hg
  exact (va_Nw.of rfl (h2 _ hx)).warmM hW
/-- an int as the machine keeps it -/
def sk_w (x : Int) : Int := (Int32.ofInt x).toInt
def sk_wl (x : Int) : Int := (Int64.ofInt x).toInt
theorem sk_w_id {x : Int} (h1 : -2147483648 ≤ x) (h2 : x < 2147483648) : sk_w x = x := Int32.toInt_ofInt_of_le (by omega) (by omega)
theorem sk_w_toInt (x : Int32) : sk_w x.toInt = x.toInt := by unfold sk_w; rw [Int32.ofInt_toInt]
theorem sk_of_w (x : Int) : Int32.ofInt (sk_w x) = Int32.ofInt x := by unfold sk_w; rw [Int32.ofInt_toInt]
theorem sk_w_lo (x : Int) : -2147483648 ≤ sk_w x := by have h := Int32.le_toInt (Int32.ofInt x); unfold sk_w; omega
theorem sk_w_hi (x : Int) : sk_w x < 2147483648 := by have h := Int32.toInt_lt (Int32.ofInt x); unfold sk_w; omega
/-! ===== values of the frame ===== -/
def sk_nth {α : Type} : List α → Nat → Option α
  | [], _ => none
  | a :: _, 0 => some a
  | _ :: r, n + 1 => sk_nth r n
def sk_set {α : Type} : List α → Nat → α → List α
  | [], _, _ => []
  | _ :: r, 0, v => v :: r
  | a :: r, n + 1, v => a :: sk_set r n v
/-- fields by a list; an array of ints, of references, by a function -/
def sk_F (l : List sk_V) : Nat → sk_V := fun j => (sk_nth l j).getD (.inl 0)
def sk_I (f : Int → Int) : Nat → sk_V := fun j => .inl (f j)
def sk_A (f : Int → Option Nat) : Nat → sk_V := fun j => .inr (.inr (f j))
def sk_up (f : Int → Int) (x v : Int) : Int → Int := fun y => if y = x then v else f y
def sk_upA (f : Int → Option Nat) (x : Int) (v : Option Nat) : Int → Option Nat := fun y => if y = x then v else f y
theorem sk_I_at (f : Int → Int) {x : Int} (h : 0 ≤ x) : sk_I f x.toNat = .inl (f x) := by unfold sk_I; rw [Int.toNat_of_nonneg h]
theorem sk_A_at (f : Int → Option Nat) {x : Int} (h : 0 ≤ x) : sk_A f x.toNat = .inr (.inr (f x)) := by unfold sk_A; rw [Int.toNat_of_nonneg h]
theorem sk_I_up (f : Int → Int) {x : Int} (v : Int) (h : 0 ≤ x) : va_up (sk_I f) x.toNat (.inl v) = sk_I (sk_up f x v) := by
  funext j
  unfold va_up sk_I sk_up
  by_cases hj : (j : Int) = x
  · subst hj; simp
  · rw [if_neg hj, if_neg (by omega)]
theorem sk_A_up (f : Int → Option Nat) {x : Int} (v : Option Nat) (h : 0 ≤ x) : va_up (sk_A f) x.toNat (.inr (.inr v)) = sk_A (sk_upA f x v) := by
  funext j
  unfold va_up sk_A sk_upA
  by_cases hj : (j : Int) = x
  · subst hj; simp
  · rw [if_neg hj, if_neg (by omega)]
theorem sk_F_nil (j : Nat) (v : sk_V) : sk_nth (sk_set ([] : List sk_V) j v) j = none := by simp [sk_set, sk_nth]
theorem sk_F_up : ∀ (l : List sk_V) (j : Nat) (v : sk_V), j < l.length → va_up (sk_F l) j v = sk_F (sk_set l j v) := by
  intro l j v h
  have key : ∀ (l : List sk_V) (j n : Nat), j < l.length → sk_nth (sk_set l j v) n = if n = j then some v else sk_nth l n := by
    intro l
    induction l with
    | nil => intro j n h; simp at h
    | cons a r ih =>
      intro j n h
      cases j with
      | zero => cases n <;> simp [sk_set, sk_nth]
      | succ j =>
        cases n with
        | zero => simp [sk_set, sk_nth]
        | succ n => simp only [sk_set, sk_nth, Nat.add_right_cancel_iff]; exact ih j n (by simpa using h)
  funext n
  unfold va_up sk_F
  rw [key l j n h]
  split <;> simp_all
theorem sk_lv_mem : ∀ (L : List (Option sk_V)) (i n : Nat) (v : sk_V), sk_nth L n = some (some v) → (i + n, sk_val v) ∈ sk_lv i L
  | [], _, _, _, h => by simp [sk_nth] at h
  | a :: r, i, 0, v, h => by
    simp only [sk_nth, Option.some.injEq] at h
    subst h
    simp [sk_lv]
  | none :: r, i, n + 1, v, h => by
    have := sk_lv_mem r (i + 1) n v h
    simp only [sk_lv]
    rwa [show i + (n + 1) = i + 1 + n by omega]
  | some a :: r, i, n + 1, v, h => by
    have := sk_lv_mem r (i + 1) n v h
    simp only [sk_lv]
    rw [show i + (n + 1) = i + 1 + n by omega]
    exact List.mem_cons_of_mem _ this
theorem sk_lv_mem' : ∀ (L : List (Option sk_V)) (i : Nat) (q : Nat × Value), q ∈ sk_lv i L → ∃ (n : Nat) (v : sk_V), sk_nth L n = some (some v) ∧ q = (i + n, sk_val v)
  | [], _, _, h => by simp [sk_lv] at h
  | none :: r, i, q, h => by
    simp only [sk_lv] at h
    obtain ⟨n, v, h1, h2⟩ := sk_lv_mem' r (i + 1) q h
    exact ⟨n + 1, v, h1, by rw [h2, show i + (n + 1) = i + 1 + n by omega]⟩
  | some a :: r, i, q, h => by
    simp only [sk_lv, List.mem_cons] at h
    rcases h with rfl | h
    · exact ⟨0, a, rfl, rfl⟩
    · obtain ⟨n, v, h1, h2⟩ := sk_lv_mem' r (i + 1) q h
      exact ⟨n + 1, v, h1, by rw [h2, show i + (n + 1) = i + 1 + n by omega]⟩
theorem sk_nth_set : ∀ (L : List (Option sk_V)) (i n : Nat) (u x : Option sk_V), sk_nth (sk_set L i u) n = some x → (n = i ∧ x = u) ∨ (n ≠ i ∧ sk_nth L n = some x)
  | [], _, _, _, _, h => by simp [sk_set, sk_nth] at h
  | a :: r, 0, 0, u, x, h => by simp [sk_set, sk_nth] at h; exact Or.inl ⟨rfl, h.symm⟩
  | a :: r, 0, n + 1, u, x, h => by simp only [sk_set, sk_nth] at h; exact Or.inr ⟨by omega, by simpa [sk_nth] using h⟩
  | a :: r, i + 1, 0, u, x, h => by simp only [sk_set, sk_nth] at h; exact Or.inr ⟨by omega, by simpa [sk_nth] using h⟩
  | a :: r, i + 1, n + 1, u, x, h => by
    simp only [sk_set, sk_nth] at h
    rcases sk_nth_set r i n u x h with ⟨h1, h2⟩ | ⟨h1, h2⟩
    · exact Or.inl ⟨by omega, h2⟩
    · exact Or.inr ⟨by omega, by simpa [sk_nth] using h2⟩
theorem sk_loc {ls : Array Slot} {nL n : Nat} {L : List (Option sk_V)} {v : sk_V} (h : lv_has ls nL (sk_lv 0 L)) (hn : sk_nth L n = some (some v)) : ls[n]? = some (.val (sk_val v)) := by
  have := h.2.2 _ (sk_lv_mem L 0 n v hn)
  simpa using this
def sk_isL : Option (Option sk_V) → Bool
  | some (some (.inr (.inl _))) => true
  | _ => false
def sk_lok (L : List (Option sk_V)) : Nat → Bool
  | 0 => true
  | n + 1 => !sk_isL (sk_nth L n)
theorem sk_cat1 {v : sk_V} (h : sk_isL (some (some v)) = false) : (sk_val v).category = 1 := by
  rcases v with x | x | r
  · rfl
  · simp [sk_isL] at h
  · cases r <;> rfl
/-- behind a store of one word -/
theorem sk_put1 {ls : Array Slot} {nL i : Nat} {L : List (Option sk_V)} {v : sk_V} (hk : sk_lok L i = true) (h : lv_has ls nL ((i, sk_val v) :: (sk_lv 0 L).filter (fun q => !(q.1 == i) && !(q.1 + 1 == i && q.2.category == 2)))) : lv_has ls nL (sk_lv 0 (sk_set L i (some v))) := by
  refine ⟨h.1, h.2.1, fun q hq => ?_⟩
  obtain ⟨n, u, h1, rfl⟩ := sk_lv_mem' _ _ _ hq
  rcases sk_nth_set L i n _ _ h1 with ⟨rfl, h2⟩ | ⟨h2, h3⟩
  · cases h2
    rw [Nat.zero_add]
    exact h.2.2 _ List.mem_cons_self
  · refine h.2.2 _ (List.mem_cons_of_mem _ (List.mem_filter.mpr ⟨sk_lv_mem L 0 n u h3, ?_⟩))
    have e1 : ((0 + n) == i) = false := by simp; omega
    simp only [e1, Bool.not_false, Bool.true_and]
    by_cases hi : n + 1 = i
    · subst hi
      simp only [sk_lok, h3] at hk
      have hc := sk_cat1 (v := u) (by simpa using hk)
      simp [hc]
    · have e2 : ((0 + n + 1) == i) = false := by simp; omega
      simp [hi]
/-- fewer values are known -/
theorem sk_fewer {w : sk_W} {pc : Nat} {L L' : List (Option sk_V)} {st : List sk_V} {M : sk_M} (h : ∀ (n : Nat) (v : sk_V), sk_nth L' n = some (some v) → sk_nth L n = some (some v)) (k : sk_B w pc L' st M) : sk_B w pc L st M := by
  intro p e s m args below meth c H locs cells slots mc ms ls hC h1 h2 hH hLo hl
  refine k p e s m args below meth c H locs cells slots mc ms ls hC h1 h2 hH hLo ⟨hl.1, hl.2.1, fun q hq => ?_⟩
  obtain ⟨n, u, h3, rfl⟩ := sk_lv_mem' _ _ _ hq
  exact hl.2.2 _ (sk_lv_mem L 0 n u (h n u h3))
