/-! ===== the reference: its object and its rows ===== -/
def md_off : Nat → Nat
  | 1 => 1
  | 6 => 2
  | 7 => 3
  | 8 => 4
  | 9 => 5
  | 10 => 6
  | 11 => 7
  | 12 => 8
  | 15 => 9
  | 16 => 10
  | 17 => 11
  | 18 => 12
  | 20 => 13
  | 21 => 14
  | 24 => 15
  | 25 => 16
  | 26 => 17
  | 28 => 18
  | 29 => 19
  | 32 => 20
  | 37 => 21
  | 38 => 22
  | 39 => 23
  | 40 => 24
  | 41 => 25
  | 42 => 26
  | 43 => 27
  | 44 => 28
  | 46 => 29
  | 47 => 30
  | _ => 0
def md_len : Nat → Nat
  | 1 => 240
  | 2 => 2600
  | 3 => 2600
  | 4 => 5
  | 5 => 5
  | 6 => 700
  | 7 => 700
  | 8 => 700
  | 9 => 6
  | 10 => 80
  | 11 => 4
  | 12 => 8
  | 13 => 4
  | 14 => 8
  | 15 => 336
  | 16 => 7
  | 17 => 28
  | 18 => 943
  | 19 => 5
  | 20 => 37720
  | 21 => 6
  | 22 => 762
  | 23 => 275
  | 24 => 17
  | 25 => 17
  | 26 => 10
  | 27 => 10
  | 28 => 10
  | 29 => 1080
  | 30 => 943
  | _ => 0
def md_kd (k : Nat) : Nat := if k = 28 then 21 else 20
def md_F (B : Nat) (S : Nat → Int) : Nat → sk_V := fun j => if md_off j = 0 then (if j = 34 then .inr (.inl (S j)) else .inl (S j)) else .inr (.inr (some (B + md_off j)))
/-- the reference at B: its numbers S (by field), its rows Y (by place); nothing else differs from M0 -/
def md (M0 M : sk_M) (B : Nat) (S : Nat → Int) (Y : Nat → Int → Int) : Prop := M.2 B = (12, 0, md_F B S) ∧ (∀ k, 1 ≤ k → k ≤ 30 → M.2 (B + k) = (md_kd k, md_len k, sk_I (Y k))) ∧ M.1 = M0.1 ∧ ∀ q, ¬ (B ≤ q ∧ q ≤ B + 30) → M.2 q = M0.2 q
theorem md_F0 (B : Nat) (S : Nat → Int) : md_F B S 0 = .inl (S 0) := rfl
theorem md_F1 (B : Nat) (S : Nat → Int) : md_F B S 1 = .inr (.inr (some (B + 1))) := rfl
theorem md_F2 (B : Nat) (S : Nat → Int) : md_F B S 2 = .inl (S 2) := rfl
theorem md_F3 (B : Nat) (S : Nat → Int) : md_F B S 3 = .inl (S 3) := rfl
theorem md_F4 (B : Nat) (S : Nat → Int) : md_F B S 4 = .inl (S 4) := rfl
theorem md_F5 (B : Nat) (S : Nat → Int) : md_F B S 5 = .inl (S 5) := rfl
theorem md_F6 (B : Nat) (S : Nat → Int) : md_F B S 6 = .inr (.inr (some (B + 2))) := rfl
theorem md_F7 (B : Nat) (S : Nat → Int) : md_F B S 7 = .inr (.inr (some (B + 3))) := rfl
theorem md_F8 (B : Nat) (S : Nat → Int) : md_F B S 8 = .inr (.inr (some (B + 4))) := rfl
theorem md_F9 (B : Nat) (S : Nat → Int) : md_F B S 9 = .inr (.inr (some (B + 5))) := rfl
theorem md_F10 (B : Nat) (S : Nat → Int) : md_F B S 10 = .inr (.inr (some (B + 6))) := rfl
theorem md_F11 (B : Nat) (S : Nat → Int) : md_F B S 11 = .inr (.inr (some (B + 7))) := rfl
theorem md_F12 (B : Nat) (S : Nat → Int) : md_F B S 12 = .inr (.inr (some (B + 8))) := rfl
theorem md_F13 (B : Nat) (S : Nat → Int) : md_F B S 13 = .inl (S 13) := rfl
theorem md_F14 (B : Nat) (S : Nat → Int) : md_F B S 14 = .inl (S 14) := rfl
theorem md_F15 (B : Nat) (S : Nat → Int) : md_F B S 15 = .inr (.inr (some (B + 9))) := rfl
theorem md_F16 (B : Nat) (S : Nat → Int) : md_F B S 16 = .inr (.inr (some (B + 10))) := rfl
theorem md_F17 (B : Nat) (S : Nat → Int) : md_F B S 17 = .inr (.inr (some (B + 11))) := rfl
theorem md_F18 (B : Nat) (S : Nat → Int) : md_F B S 18 = .inr (.inr (some (B + 12))) := rfl
theorem md_F19 (B : Nat) (S : Nat → Int) : md_F B S 19 = .inl (S 19) := rfl
theorem md_F20 (B : Nat) (S : Nat → Int) : md_F B S 20 = .inr (.inr (some (B + 13))) := rfl
theorem md_F21 (B : Nat) (S : Nat → Int) : md_F B S 21 = .inr (.inr (some (B + 14))) := rfl
theorem md_F22 (B : Nat) (S : Nat → Int) : md_F B S 22 = .inl (S 22) := rfl
theorem md_F23 (B : Nat) (S : Nat → Int) : md_F B S 23 = .inl (S 23) := rfl
theorem md_F24 (B : Nat) (S : Nat → Int) : md_F B S 24 = .inr (.inr (some (B + 15))) := rfl
theorem md_F25 (B : Nat) (S : Nat → Int) : md_F B S 25 = .inr (.inr (some (B + 16))) := rfl
theorem md_F26 (B : Nat) (S : Nat → Int) : md_F B S 26 = .inr (.inr (some (B + 17))) := rfl
theorem md_F27 (B : Nat) (S : Nat → Int) : md_F B S 27 = .inl (S 27) := rfl
theorem md_F28 (B : Nat) (S : Nat → Int) : md_F B S 28 = .inr (.inr (some (B + 18))) := rfl
theorem md_F29 (B : Nat) (S : Nat → Int) : md_F B S 29 = .inr (.inr (some (B + 19))) := rfl
theorem md_F30 (B : Nat) (S : Nat → Int) : md_F B S 30 = .inl (S 30) := rfl
theorem md_F31 (B : Nat) (S : Nat → Int) : md_F B S 31 = .inl (S 31) := rfl
theorem md_F32 (B : Nat) (S : Nat → Int) : md_F B S 32 = .inr (.inr (some (B + 20))) := rfl
theorem md_F33 (B : Nat) (S : Nat → Int) : md_F B S 33 = .inl (S 33) := rfl
theorem md_F34 (B : Nat) (S : Nat → Int) : md_F B S 34 = .inr (.inl (S 34)) := rfl
theorem md_F35 (B : Nat) (S : Nat → Int) : md_F B S 35 = .inl (S 35) := rfl
theorem md_F36 (B : Nat) (S : Nat → Int) : md_F B S 36 = .inl (S 36) := rfl
theorem md_F37 (B : Nat) (S : Nat → Int) : md_F B S 37 = .inr (.inr (some (B + 21))) := rfl
theorem md_F38 (B : Nat) (S : Nat → Int) : md_F B S 38 = .inr (.inr (some (B + 22))) := rfl
theorem md_F39 (B : Nat) (S : Nat → Int) : md_F B S 39 = .inr (.inr (some (B + 23))) := rfl
theorem md_F40 (B : Nat) (S : Nat → Int) : md_F B S 40 = .inr (.inr (some (B + 24))) := rfl
theorem md_F41 (B : Nat) (S : Nat → Int) : md_F B S 41 = .inr (.inr (some (B + 25))) := rfl
theorem md_F42 (B : Nat) (S : Nat → Int) : md_F B S 42 = .inr (.inr (some (B + 26))) := rfl
theorem md_F43 (B : Nat) (S : Nat → Int) : md_F B S 43 = .inr (.inr (some (B + 27))) := rfl
theorem md_F44 (B : Nat) (S : Nat → Int) : md_F B S 44 = .inr (.inr (some (B + 28))) := rfl
theorem md_F45 (B : Nat) (S : Nat → Int) : md_F B S 45 = .inl (S 45) := rfl
theorem md_F46 (B : Nat) (S : Nat → Int) : md_F B S 46 = .inr (.inr (some (B + 29))) := rfl
theorem md_F47 (B : Nat) (S : Nat → Int) : md_F B S 47 = .inr (.inr (some (B + 30))) := rfl
theorem md_F48 (B : Nat) (S : Nat → Int) : md_F B S 48 = .inl (S 48) := rfl
theorem md_up (B : Nat) (S : Nat → Int) {j : Nat} (x : Int) (h : md_off j = 0) (h2 : j ≠ 34) : va_up (md_F B S) j (.inl x) = md_F B (va_up S j x) := by
  funext i
  unfold va_up
  by_cases hi : i = j
  · subst hi; simp [md_F, h, h2]
  · simp [md_F, hi]
theorem md_upl (B : Nat) (S : Nat → Int) (x : Int) : va_up (md_F B S) 34 (.inr (.inl x)) = md_F B (va_up S 34 x) := by
  funext i
  unfold va_up
  by_cases hi : i = 34
  · subst hi; rfl
  · simp [md_F, hi]
theorem md_u0 (B : Nat) (S : Nat → Int) (x : Int) : va_up (md_F B S) 0 (.inl x) = md_F B (va_up S 0 x) := md_up B S x rfl (by decide)
theorem md_u2 (B : Nat) (S : Nat → Int) (x : Int) : va_up (md_F B S) 2 (.inl x) = md_F B (va_up S 2 x) := md_up B S x rfl (by decide)
theorem md_u3 (B : Nat) (S : Nat → Int) (x : Int) : va_up (md_F B S) 3 (.inl x) = md_F B (va_up S 3 x) := md_up B S x rfl (by decide)
theorem md_u4 (B : Nat) (S : Nat → Int) (x : Int) : va_up (md_F B S) 4 (.inl x) = md_F B (va_up S 4 x) := md_up B S x rfl (by decide)
theorem md_u5 (B : Nat) (S : Nat → Int) (x : Int) : va_up (md_F B S) 5 (.inl x) = md_F B (va_up S 5 x) := md_up B S x rfl (by decide)
theorem md_u13 (B : Nat) (S : Nat → Int) (x : Int) : va_up (md_F B S) 13 (.inl x) = md_F B (va_up S 13 x) := md_up B S x rfl (by decide)
theorem md_u14 (B : Nat) (S : Nat → Int) (x : Int) : va_up (md_F B S) 14 (.inl x) = md_F B (va_up S 14 x) := md_up B S x rfl (by decide)
theorem md_u19 (B : Nat) (S : Nat → Int) (x : Int) : va_up (md_F B S) 19 (.inl x) = md_F B (va_up S 19 x) := md_up B S x rfl (by decide)
theorem md_u22 (B : Nat) (S : Nat → Int) (x : Int) : va_up (md_F B S) 22 (.inl x) = md_F B (va_up S 22 x) := md_up B S x rfl (by decide)
theorem md_u23 (B : Nat) (S : Nat → Int) (x : Int) : va_up (md_F B S) 23 (.inl x) = md_F B (va_up S 23 x) := md_up B S x rfl (by decide)
theorem md_u27 (B : Nat) (S : Nat → Int) (x : Int) : va_up (md_F B S) 27 (.inl x) = md_F B (va_up S 27 x) := md_up B S x rfl (by decide)
theorem md_u30 (B : Nat) (S : Nat → Int) (x : Int) : va_up (md_F B S) 30 (.inl x) = md_F B (va_up S 30 x) := md_up B S x rfl (by decide)
theorem md_u31 (B : Nat) (S : Nat → Int) (x : Int) : va_up (md_F B S) 31 (.inl x) = md_F B (va_up S 31 x) := md_up B S x rfl (by decide)
theorem md_u33 (B : Nat) (S : Nat → Int) (x : Int) : va_up (md_F B S) 33 (.inl x) = md_F B (va_up S 33 x) := md_up B S x rfl (by decide)
theorem md_u35 (B : Nat) (S : Nat → Int) (x : Int) : va_up (md_F B S) 35 (.inl x) = md_F B (va_up S 35 x) := md_up B S x rfl (by decide)
theorem md_u36 (B : Nat) (S : Nat → Int) (x : Int) : va_up (md_F B S) 36 (.inl x) = md_F B (va_up S 36 x) := md_up B S x rfl (by decide)
theorem md_u45 (B : Nat) (S : Nat → Int) (x : Int) : va_up (md_F B S) 45 (.inl x) = md_F B (va_up S 45 x) := md_up B S x rfl (by decide)
theorem md_u48 (B : Nat) (S : Nat → Int) (x : Int) : va_up (md_F B S) 48 (.inl x) = md_F B (va_up S 48 x) := md_up B S x rfl (by decide)
section MD
variable {M0 M : sk_M} {B : Nat} {S S' : Nat → Int} {Y : Nat → Int → Int}
theorem md_put (h : md M0 M B S Y) : md M0 (M.1, va_up M.2 B (12, 0, md_F B S')) B S' Y :=
  ⟨va_up_self _ _ _, fun k h1 h2 => (va_up_ne _ _ (by omega)).trans (h.2.1 k h1 h2), h.2.2.1, fun q hq => (va_up_ne _ _ (by omega)).trans (h.2.2.2 q hq)⟩
theorem md_arr (k : Nat) {f : Int → Int} (h1 : 1 ≤ k) (h2 : k ≤ 30) (h : md M0 M B S Y) : md M0 (M.1, va_up M.2 (B + k) (md_kd k, md_len k, sk_I f)) B S (va_up Y k f) := by
  refine ⟨(va_up_ne _ _ (by omega)).trans h.1, fun j h3 h4 => ?_, h.2.2.1, fun q hq => (va_up_ne _ _ (by omega)).trans (h.2.2.2 q hq)⟩
  show va_up M.2 (B + k) _ (B + j) = _
  by_cases hj : j = k
  · subst hj; rw [va_up_self, va_up_self]
  · rw [va_up_ne _ _ (by omega), va_up_ne _ _ hj]; exact h.2.1 j h3 h4
theorem md_y1 (h : md M0 M B S Y) : M.2 (B + 1) = (20, 240, sk_I (Y 1)) := h.2.1 1 (by omega) (by omega)
theorem md_a1 {f : Int → Int} (h : md M0 M B S Y) : md M0 (M.1, va_up M.2 (B + 1) (20, 240, sk_I f)) B S (va_up Y 1 f) := md_arr 1 (by omega) (by omega) h
theorem md_y2 (h : md M0 M B S Y) : M.2 (B + 2) = (20, 2600, sk_I (Y 2)) := h.2.1 2 (by omega) (by omega)
theorem md_a2 {f : Int → Int} (h : md M0 M B S Y) : md M0 (M.1, va_up M.2 (B + 2) (20, 2600, sk_I f)) B S (va_up Y 2 f) := md_arr 2 (by omega) (by omega) h
theorem md_y3 (h : md M0 M B S Y) : M.2 (B + 3) = (20, 2600, sk_I (Y 3)) := h.2.1 3 (by omega) (by omega)
theorem md_a3 {f : Int → Int} (h : md M0 M B S Y) : md M0 (M.1, va_up M.2 (B + 3) (20, 2600, sk_I f)) B S (va_up Y 3 f) := md_arr 3 (by omega) (by omega) h
theorem md_y4 (h : md M0 M B S Y) : M.2 (B + 4) = (20, 5, sk_I (Y 4)) := h.2.1 4 (by omega) (by omega)
theorem md_a4 {f : Int → Int} (h : md M0 M B S Y) : md M0 (M.1, va_up M.2 (B + 4) (20, 5, sk_I f)) B S (va_up Y 4 f) := md_arr 4 (by omega) (by omega) h
theorem md_y5 (h : md M0 M B S Y) : M.2 (B + 5) = (20, 5, sk_I (Y 5)) := h.2.1 5 (by omega) (by omega)
theorem md_a5 {f : Int → Int} (h : md M0 M B S Y) : md M0 (M.1, va_up M.2 (B + 5) (20, 5, sk_I f)) B S (va_up Y 5 f) := md_arr 5 (by omega) (by omega) h
theorem md_y6 (h : md M0 M B S Y) : M.2 (B + 6) = (20, 700, sk_I (Y 6)) := h.2.1 6 (by omega) (by omega)
theorem md_a6 {f : Int → Int} (h : md M0 M B S Y) : md M0 (M.1, va_up M.2 (B + 6) (20, 700, sk_I f)) B S (va_up Y 6 f) := md_arr 6 (by omega) (by omega) h
theorem md_y7 (h : md M0 M B S Y) : M.2 (B + 7) = (20, 700, sk_I (Y 7)) := h.2.1 7 (by omega) (by omega)
theorem md_a7 {f : Int → Int} (h : md M0 M B S Y) : md M0 (M.1, va_up M.2 (B + 7) (20, 700, sk_I f)) B S (va_up Y 7 f) := md_arr 7 (by omega) (by omega) h
theorem md_y8 (h : md M0 M B S Y) : M.2 (B + 8) = (20, 700, sk_I (Y 8)) := h.2.1 8 (by omega) (by omega)
theorem md_a8 {f : Int → Int} (h : md M0 M B S Y) : md M0 (M.1, va_up M.2 (B + 8) (20, 700, sk_I f)) B S (va_up Y 8 f) := md_arr 8 (by omega) (by omega) h
theorem md_y9 (h : md M0 M B S Y) : M.2 (B + 9) = (20, 6, sk_I (Y 9)) := h.2.1 9 (by omega) (by omega)
theorem md_a9 {f : Int → Int} (h : md M0 M B S Y) : md M0 (M.1, va_up M.2 (B + 9) (20, 6, sk_I f)) B S (va_up Y 9 f) := md_arr 9 (by omega) (by omega) h
theorem md_y10 (h : md M0 M B S Y) : M.2 (B + 10) = (20, 80, sk_I (Y 10)) := h.2.1 10 (by omega) (by omega)
theorem md_a10 {f : Int → Int} (h : md M0 M B S Y) : md M0 (M.1, va_up M.2 (B + 10) (20, 80, sk_I f)) B S (va_up Y 10 f) := md_arr 10 (by omega) (by omega) h
theorem md_y11 (h : md M0 M B S Y) : M.2 (B + 11) = (20, 4, sk_I (Y 11)) := h.2.1 11 (by omega) (by omega)
theorem md_a11 {f : Int → Int} (h : md M0 M B S Y) : md M0 (M.1, va_up M.2 (B + 11) (20, 4, sk_I f)) B S (va_up Y 11 f) := md_arr 11 (by omega) (by omega) h
theorem md_y12 (h : md M0 M B S Y) : M.2 (B + 12) = (20, 8, sk_I (Y 12)) := h.2.1 12 (by omega) (by omega)
theorem md_a12 {f : Int → Int} (h : md M0 M B S Y) : md M0 (M.1, va_up M.2 (B + 12) (20, 8, sk_I f)) B S (va_up Y 12 f) := md_arr 12 (by omega) (by omega) h
theorem md_y13 (h : md M0 M B S Y) : M.2 (B + 13) = (20, 4, sk_I (Y 13)) := h.2.1 13 (by omega) (by omega)
theorem md_a13 {f : Int → Int} (h : md M0 M B S Y) : md M0 (M.1, va_up M.2 (B + 13) (20, 4, sk_I f)) B S (va_up Y 13 f) := md_arr 13 (by omega) (by omega) h
theorem md_y14 (h : md M0 M B S Y) : M.2 (B + 14) = (20, 8, sk_I (Y 14)) := h.2.1 14 (by omega) (by omega)
theorem md_a14 {f : Int → Int} (h : md M0 M B S Y) : md M0 (M.1, va_up M.2 (B + 14) (20, 8, sk_I f)) B S (va_up Y 14 f) := md_arr 14 (by omega) (by omega) h
theorem md_y15 (h : md M0 M B S Y) : M.2 (B + 15) = (20, 336, sk_I (Y 15)) := h.2.1 15 (by omega) (by omega)
theorem md_a15 {f : Int → Int} (h : md M0 M B S Y) : md M0 (M.1, va_up M.2 (B + 15) (20, 336, sk_I f)) B S (va_up Y 15 f) := md_arr 15 (by omega) (by omega) h
theorem md_y16 (h : md M0 M B S Y) : M.2 (B + 16) = (20, 7, sk_I (Y 16)) := h.2.1 16 (by omega) (by omega)
theorem md_a16 {f : Int → Int} (h : md M0 M B S Y) : md M0 (M.1, va_up M.2 (B + 16) (20, 7, sk_I f)) B S (va_up Y 16 f) := md_arr 16 (by omega) (by omega) h
theorem md_y17 (h : md M0 M B S Y) : M.2 (B + 17) = (20, 28, sk_I (Y 17)) := h.2.1 17 (by omega) (by omega)
theorem md_a17 {f : Int → Int} (h : md M0 M B S Y) : md M0 (M.1, va_up M.2 (B + 17) (20, 28, sk_I f)) B S (va_up Y 17 f) := md_arr 17 (by omega) (by omega) h
theorem md_y18 (h : md M0 M B S Y) : M.2 (B + 18) = (20, 943, sk_I (Y 18)) := h.2.1 18 (by omega) (by omega)
theorem md_a18 {f : Int → Int} (h : md M0 M B S Y) : md M0 (M.1, va_up M.2 (B + 18) (20, 943, sk_I f)) B S (va_up Y 18 f) := md_arr 18 (by omega) (by omega) h
theorem md_y19 (h : md M0 M B S Y) : M.2 (B + 19) = (20, 5, sk_I (Y 19)) := h.2.1 19 (by omega) (by omega)
theorem md_a19 {f : Int → Int} (h : md M0 M B S Y) : md M0 (M.1, va_up M.2 (B + 19) (20, 5, sk_I f)) B S (va_up Y 19 f) := md_arr 19 (by omega) (by omega) h
theorem md_y20 (h : md M0 M B S Y) : M.2 (B + 20) = (20, 37720, sk_I (Y 20)) := h.2.1 20 (by omega) (by omega)
theorem md_a20 {f : Int → Int} (h : md M0 M B S Y) : md M0 (M.1, va_up M.2 (B + 20) (20, 37720, sk_I f)) B S (va_up Y 20 f) := md_arr 20 (by omega) (by omega) h
theorem md_y21 (h : md M0 M B S Y) : M.2 (B + 21) = (20, 6, sk_I (Y 21)) := h.2.1 21 (by omega) (by omega)
theorem md_a21 {f : Int → Int} (h : md M0 M B S Y) : md M0 (M.1, va_up M.2 (B + 21) (20, 6, sk_I f)) B S (va_up Y 21 f) := md_arr 21 (by omega) (by omega) h
theorem md_y22 (h : md M0 M B S Y) : M.2 (B + 22) = (20, 762, sk_I (Y 22)) := h.2.1 22 (by omega) (by omega)
theorem md_a22 {f : Int → Int} (h : md M0 M B S Y) : md M0 (M.1, va_up M.2 (B + 22) (20, 762, sk_I f)) B S (va_up Y 22 f) := md_arr 22 (by omega) (by omega) h
theorem md_y23 (h : md M0 M B S Y) : M.2 (B + 23) = (20, 275, sk_I (Y 23)) := h.2.1 23 (by omega) (by omega)
theorem md_a23 {f : Int → Int} (h : md M0 M B S Y) : md M0 (M.1, va_up M.2 (B + 23) (20, 275, sk_I f)) B S (va_up Y 23 f) := md_arr 23 (by omega) (by omega) h
theorem md_y24 (h : md M0 M B S Y) : M.2 (B + 24) = (20, 17, sk_I (Y 24)) := h.2.1 24 (by omega) (by omega)
theorem md_a24 {f : Int → Int} (h : md M0 M B S Y) : md M0 (M.1, va_up M.2 (B + 24) (20, 17, sk_I f)) B S (va_up Y 24 f) := md_arr 24 (by omega) (by omega) h
theorem md_y25 (h : md M0 M B S Y) : M.2 (B + 25) = (20, 17, sk_I (Y 25)) := h.2.1 25 (by omega) (by omega)
theorem md_a25 {f : Int → Int} (h : md M0 M B S Y) : md M0 (M.1, va_up M.2 (B + 25) (20, 17, sk_I f)) B S (va_up Y 25 f) := md_arr 25 (by omega) (by omega) h
theorem md_y26 (h : md M0 M B S Y) : M.2 (B + 26) = (20, 10, sk_I (Y 26)) := h.2.1 26 (by omega) (by omega)
theorem md_a26 {f : Int → Int} (h : md M0 M B S Y) : md M0 (M.1, va_up M.2 (B + 26) (20, 10, sk_I f)) B S (va_up Y 26 f) := md_arr 26 (by omega) (by omega) h
theorem md_y27 (h : md M0 M B S Y) : M.2 (B + 27) = (20, 10, sk_I (Y 27)) := h.2.1 27 (by omega) (by omega)
theorem md_a27 {f : Int → Int} (h : md M0 M B S Y) : md M0 (M.1, va_up M.2 (B + 27) (20, 10, sk_I f)) B S (va_up Y 27 f) := md_arr 27 (by omega) (by omega) h
theorem md_y28 (h : md M0 M B S Y) : M.2 (B + 28) = (21, 10, sk_I (Y 28)) := h.2.1 28 (by omega) (by omega)
theorem md_a28 {f : Int → Int} (h : md M0 M B S Y) : md M0 (M.1, va_up M.2 (B + 28) (21, 10, sk_I f)) B S (va_up Y 28 f) := md_arr 28 (by omega) (by omega) h
theorem md_y29 (h : md M0 M B S Y) : M.2 (B + 29) = (20, 1080, sk_I (Y 29)) := h.2.1 29 (by omega) (by omega)
theorem md_a29 {f : Int → Int} (h : md M0 M B S Y) : md M0 (M.1, va_up M.2 (B + 29) (20, 1080, sk_I f)) B S (va_up Y 29 f) := md_arr 29 (by omega) (by omega) h
theorem md_y30 (h : md M0 M B S Y) : M.2 (B + 30) = (20, 943, sk_I (Y 30)) := h.2.1 30 (by omega) (by omega)
theorem md_a30 {f : Int → Int} (h : md M0 M B S Y) : md M0 (M.1, va_up M.2 (B + 30) (20, 943, sk_I f)) B S (va_up Y 30 f) := md_arr 30 (by omega) (by omega) h
end MD
section MODEL
variable {g : sk_G} {d ck sk : Nat} {M0 M : sk_M} {Q : sk_P} {B : Nat} {S : Nat → Int} {Y : Nat → Int → Int} {n : Int}
theorem c_look (h : md M0 M B S Y) (hn : S 2 = n) (hT : tp_ok (Y 1) n) (h0 : 0 ≤ S 3) (h1 : S 3 < 10000) (hd : 4 ≤ d) (hQ : ∀ M', md M0 M' B (va_up S 3 (tp_skip (Y 1) n (S 3))) Y → Q (some (.inl (tp_ch (Y 1) n (tp_skip (Y 1) n (S 3))))) M') : sk_call g d ck sk xX12_look [.inr (.inr (some B))] M Q := by
  obtain ⟨b0, b1, b2⟩ := hT
  have key : ∀ (k : Nat) (i : Int) (M : sk_M), (n - i).toNat = k → md M0 M B (va_up S 3 i) Y → 0 ≤ i → i < 10000 → (∀ M', md M0 M' B (va_up S 3 (tp_skip (Y 1) n i)) Y → Q (some (.inl (tp_ch (Y 1) n (tp_skip (Y 1) n i)))) M') → sk_B (g, d, ck, sk, xX12_look, Q) 0 [some (.inr (.inr (some B)))] [] M := by
    intro k
    induction k with
    | zero =>
      intro i M hk h h0 h1 hQ
      rw [tp_skip_big _ (by omega)] at hQ
      have p1 := h.1
      have p2 := md_y1 h
      have e := hQ M h
      unfold tp_ch at e
      rw [if_neg (by omega)] at e
      refine tX12_look_0 _ _ _ ?_
      simp (disch := omega) only [kX12_look_0, po_i, po_l, po_null, po_iload, po_lload, po_aload, po_istore, po_astore, po_iinc, po_iadd, po_isub, po_imul, po_ineg, po_iand, po_ior, po_ishl, po_ishr, po_iushr, po_idiv, po_irem, po_dup, po_dup2, po_pop, po_ifeq, po_ifne, po_iflt, po_ifge, po_ifgt, po_ifle, po_iceq, po_icne, po_iclt, po_icge, po_icgt, po_icle, po_ifnull, po_ifnull1, po_ret, po_iret, po_zret, po_lret, po_aret, po_getf, po_puti, po_putz, po_putl, po_puta, po_iaload, po_iastore, po_alen, po_baload, po_bastore, po_laload, po_lastore, po_aaload, po_aastore, po_invB, po_stcB, po_stcB0, po_iniB, po_new, po_newa, po_obj, po_ladd, po_lsub, po_lmul, po_ldiv, po_lrem, po_land, po_lor, po_lshl, po_lushr, po_i2l, po_l2i, po_i2c, po_lcmp, po_lstore, po_tsw, po_gets, po_max, po_min, po_maxl, po_minl, po_acopy, po_ixor, po_lds, po_slen, po_sidx, po_invT, po_stcT, po_stcT0, sk_swt, kX5_letterIn_0, kX5_handIn_0, kX5_strengthIn_0, kX5_weakened_0, kX5_codeAt_0, kX5_put_0, kX7_isSkin_0, kX7_wide_0, kX7_rows_0, kX7_legible_0, kX7_coinsAtFirst_0, kX7_cells_0, kX7_spots_0, kX7_hasCell_0, kX7_hasRow_0, kX7_hasHand_0, kX7_ofHand_0, kX7_firstOf_0, kX7_rowOf_0, kX7_placeOf_0, kX10_isLetter_0, kX10_signAt_0, kX8_writingAt_0, kX8_lawThatHolds_0, kX8_lets_0, kX9_rewind_0, kX9_step_0, kX9_stepBack_0, kX9_cut_0, kX3_clear_0, kX3_add_0, kX6_judge_0, kX6_swap_0, kX1_push_0, kX1_pop_0, kX0_forget_0, kX11_refuse_0, kX11_draw_0, kX12_in_0, kX12_has_0, kX12_here_0, kX12_bad_0, kX12_isDigit_0, kX12_isSign_0, kX12_isInk_0, kX12_of_0, kX12_setOf_0, kX12_isCell_0, kX12_isHand_0, kX12_isRow_0, kX12_isWriting_0, kX12_isLegible_0, kX12_signOf_0, kX12_areYears_0, kX12_isRefused_0, kX12_draw_0, sk_nth, sk_set, sk_lok, sk_isL, sk_one, sk_pop, sk_wt, sk_cat, sk_ent, sk_pad, sk_tl_n, sk_tl_s, List.length_cons, List.length_nil, true_and, and_true, Bool.not_false, sk_F_at, Option.getD_some, sk_w_id, sk_I_at, sk_isI, false_implies, true_implies, forall_const, ne_eq, not_true_eq_false, not_false_eq_true, implies_true, true_or, or_true, va_up_self, va_up_ne, va_up_up, sk_I_up, p1, p2, md_F0, md_F1, md_F2, md_F3, md_F4, md_F5, md_F6, md_F7, md_F8, md_F9, md_F10, md_F11, md_F12, md_F13, md_F14, md_F15, md_F16, md_F17, md_F18, md_F19, md_F20, md_F21, md_F22, md_F23, md_F24, md_F25, md_F26, md_F27, md_F28, md_F29, md_F30, md_F31, md_F32, md_F33, md_F34, md_F35, md_F36, md_F37, md_F38, md_F39, md_F40, md_F41, md_F42, md_F43, md_F44, md_F45, md_F46, md_F47, md_F48, md_u0, md_u2, md_u3, md_u4, md_u5, md_u13, md_u14, md_u19, md_u22, md_u23, md_u27, md_u30, md_u31, md_u33, md_u35, md_u36, md_u45, md_u48, md_upl, hn]
      and_intros <;> intros <;> and_intros <;> intros <;> and_intros <;> intros <;> and_intros <;> intros <;> and_intros <;> intros <;> and_intros <;> intros <;> and_intros <;> intros <;> and_intros <;> intros <;> and_intros <;> try first | omega | rfl | assumption
    | succ k ih =>
      intro i M hk h h0 h1 hQ
      have b3 := b2 i h0 (by omega)
      have p1 := h.1
      have p2 := md_y1 h
      by_cases h2 : Y 1 i = 32
      · rw [tp_skip_go (by omega) h2] at hQ
        have ih2 := ih (i + 1) _ (by omega) (md_put (S' := va_up S 3 (i + 1)) h) (by omega) (by omega) hQ
        refine tX12_look_0 _ _ _ ?_
        simp (disch := omega) only [kX12_look_0, po_i, po_l, po_null, po_iload, po_lload, po_aload, po_istore, po_astore, po_iinc, po_iadd, po_isub, po_imul, po_ineg, po_iand, po_ior, po_ishl, po_ishr, po_iushr, po_idiv, po_irem, po_dup, po_dup2, po_pop, po_ifeq, po_ifne, po_iflt, po_ifge, po_ifgt, po_ifle, po_iceq, po_icne, po_iclt, po_icge, po_icgt, po_icle, po_ifnull, po_ifnull1, po_ret, po_iret, po_zret, po_lret, po_aret, po_getf, po_puti, po_putz, po_putl, po_puta, po_iaload, po_iastore, po_alen, po_baload, po_bastore, po_laload, po_lastore, po_aaload, po_aastore, po_invB, po_stcB, po_stcB0, po_iniB, po_new, po_newa, po_obj, po_ladd, po_lsub, po_lmul, po_ldiv, po_lrem, po_land, po_lor, po_lshl, po_lushr, po_i2l, po_l2i, po_i2c, po_lcmp, po_lstore, po_tsw, po_gets, po_max, po_min, po_maxl, po_minl, po_acopy, po_ixor, po_lds, po_slen, po_sidx, po_invT, po_stcT, po_stcT0, sk_swt, kX5_letterIn_0, kX5_handIn_0, kX5_strengthIn_0, kX5_weakened_0, kX5_codeAt_0, kX5_put_0, kX7_isSkin_0, kX7_wide_0, kX7_rows_0, kX7_legible_0, kX7_coinsAtFirst_0, kX7_cells_0, kX7_spots_0, kX7_hasCell_0, kX7_hasRow_0, kX7_hasHand_0, kX7_ofHand_0, kX7_firstOf_0, kX7_rowOf_0, kX7_placeOf_0, kX10_isLetter_0, kX10_signAt_0, kX8_writingAt_0, kX8_lawThatHolds_0, kX8_lets_0, kX9_rewind_0, kX9_step_0, kX9_stepBack_0, kX9_cut_0, kX3_clear_0, kX3_add_0, kX6_judge_0, kX6_swap_0, kX1_push_0, kX1_pop_0, kX0_forget_0, kX11_refuse_0, kX11_draw_0, kX12_in_0, kX12_has_0, kX12_here_0, kX12_bad_0, kX12_isDigit_0, kX12_isSign_0, kX12_isInk_0, kX12_of_0, kX12_setOf_0, kX12_isCell_0, kX12_isHand_0, kX12_isRow_0, kX12_isWriting_0, kX12_isLegible_0, kX12_signOf_0, kX12_areYears_0, kX12_isRefused_0, kX12_draw_0, sk_nth, sk_set, sk_lok, sk_isL, sk_one, sk_pop, sk_wt, sk_cat, sk_ent, sk_pad, sk_tl_n, sk_tl_s, List.length_cons, List.length_nil, true_and, and_true, Bool.not_false, sk_F_at, Option.getD_some, sk_w_id, sk_I_at, sk_isI, false_implies, true_implies, forall_const, ne_eq, not_true_eq_false, not_false_eq_true, implies_true, true_or, or_true, va_up_self, va_up_ne, va_up_up, sk_I_up, p1, p2, md_F0, md_F1, md_F2, md_F3, md_F4, md_F5, md_F6, md_F7, md_F8, md_F9, md_F10, md_F11, md_F12, md_F13, md_F14, md_F15, md_F16, md_F17, md_F18, md_F19, md_F20, md_F21, md_F22, md_F23, md_F24, md_F25, md_F26, md_F27, md_F28, md_F29, md_F30, md_F31, md_F32, md_F33, md_F34, md_F35, md_F36, md_F37, md_F38, md_F39, md_F40, md_F41, md_F42, md_F43, md_F44, md_F45, md_F46, md_F47, md_F48, md_u0, md_u2, md_u3, md_u4, md_u5, md_u13, md_u14, md_u19, md_u22, md_u23, md_u27, md_u30, md_u31, md_u33, md_u35, md_u36, md_u45, md_u48, md_upl, hn]
        and_intros <;> intros <;> and_intros <;> intros <;> and_intros <;> intros <;> and_intros <;> intros <;> and_intros <;> intros <;> and_intros <;> intros <;> and_intros <;> intros <;> and_intros <;> intros <;> and_intros <;> try first | omega | rfl | assumption
      · rw [tp_skip_at h2] at hQ
        have e := hQ M h
        unfold tp_ch at e
        rw [if_pos (by omega)] at e
        refine tX12_look_0 _ _ _ ?_
        simp (disch := omega) only [kX12_look_0, po_i, po_l, po_null, po_iload, po_lload, po_aload, po_istore, po_astore, po_iinc, po_iadd, po_isub, po_imul, po_ineg, po_iand, po_ior, po_ishl, po_ishr, po_iushr, po_idiv, po_irem, po_dup, po_dup2, po_pop, po_ifeq, po_ifne, po_iflt, po_ifge, po_ifgt, po_ifle, po_iceq, po_icne, po_iclt, po_icge, po_icgt, po_icle, po_ifnull, po_ifnull1, po_ret, po_iret, po_zret, po_lret, po_aret, po_getf, po_puti, po_putz, po_putl, po_puta, po_iaload, po_iastore, po_alen, po_baload, po_bastore, po_laload, po_lastore, po_aaload, po_aastore, po_invB, po_stcB, po_stcB0, po_iniB, po_new, po_newa, po_obj, po_ladd, po_lsub, po_lmul, po_ldiv, po_lrem, po_land, po_lor, po_lshl, po_lushr, po_i2l, po_l2i, po_i2c, po_lcmp, po_lstore, po_tsw, po_gets, po_max, po_min, po_maxl, po_minl, po_acopy, po_ixor, po_lds, po_slen, po_sidx, po_invT, po_stcT, po_stcT0, sk_swt, kX5_letterIn_0, kX5_handIn_0, kX5_strengthIn_0, kX5_weakened_0, kX5_codeAt_0, kX5_put_0, kX7_isSkin_0, kX7_wide_0, kX7_rows_0, kX7_legible_0, kX7_coinsAtFirst_0, kX7_cells_0, kX7_spots_0, kX7_hasCell_0, kX7_hasRow_0, kX7_hasHand_0, kX7_ofHand_0, kX7_firstOf_0, kX7_rowOf_0, kX7_placeOf_0, kX10_isLetter_0, kX10_signAt_0, kX8_writingAt_0, kX8_lawThatHolds_0, kX8_lets_0, kX9_rewind_0, kX9_step_0, kX9_stepBack_0, kX9_cut_0, kX3_clear_0, kX3_add_0, kX6_judge_0, kX6_swap_0, kX1_push_0, kX1_pop_0, kX0_forget_0, kX11_refuse_0, kX11_draw_0, kX12_in_0, kX12_has_0, kX12_here_0, kX12_bad_0, kX12_isDigit_0, kX12_isSign_0, kX12_isInk_0, kX12_of_0, kX12_setOf_0, kX12_isCell_0, kX12_isHand_0, kX12_isRow_0, kX12_isWriting_0, kX12_isLegible_0, kX12_signOf_0, kX12_areYears_0, kX12_isRefused_0, kX12_draw_0, sk_nth, sk_set, sk_lok, sk_isL, sk_one, sk_pop, sk_wt, sk_cat, sk_ent, sk_pad, sk_tl_n, sk_tl_s, List.length_cons, List.length_nil, true_and, and_true, Bool.not_false, sk_F_at, Option.getD_some, sk_w_id, sk_I_at, sk_isI, false_implies, true_implies, forall_const, ne_eq, not_true_eq_false, not_false_eq_true, implies_true, true_or, or_true, va_up_self, va_up_ne, va_up_up, sk_I_up, p1, p2, md_F0, md_F1, md_F2, md_F3, md_F4, md_F5, md_F6, md_F7, md_F8, md_F9, md_F10, md_F11, md_F12, md_F13, md_F14, md_F15, md_F16, md_F17, md_F18, md_F19, md_F20, md_F21, md_F22, md_F23, md_F24, md_F25, md_F26, md_F27, md_F28, md_F29, md_F30, md_F31, md_F32, md_F33, md_F34, md_F35, md_F36, md_F37, md_F38, md_F39, md_F40, md_F41, md_F42, md_F43, md_F44, md_F45, md_F46, md_F47, md_F48, md_u0, md_u2, md_u3, md_u4, md_u5, md_u13, md_u14, md_u19, md_u22, md_u23, md_u27, md_u30, md_u31, md_u33, md_u35, md_u36, md_u45, md_u48, md_upl, hn]
        and_intros <;> intros <;> and_intros <;> intros <;> and_intros <;> intros <;> and_intros <;> intros <;> and_intros <;> intros <;> and_intros <;> intros <;> and_intros <;> intros <;> and_intros <;> intros <;> and_intros <;> try first | omega | rfl | assumption
  exact key _ (S 3) M rfl (by rw [va_up_same rfl]; exact h) h0 h1 hQ
theorem c_mEnd {x : Int} (h : md M0 M B S Y) (x0 : -2147483648 ≤ x) (x1 : x < 2147483648) (hn : 0 ≤ S 2) (hn1 : S 2 ≤ 240) (hY : 0 ≤ x → x ≤ S 2 → ∀ M', md M0 M' B (va_up S 2 x) Y → Q (some (.inl 1)) M') (hN : ¬ (0 ≤ x ∧ x ≤ S 2) → Q (some (.inl 0)) M) : sk_call g d ck sk xX12_end [.inr (.inr (some B)), .inl x] M Q := by
  have p1 := h.1
  refine tX12_end_0 _ _ _ ?_
  simp (disch := omega) only [kX12_end_0, po_i, po_l, po_null, po_iload, po_lload, po_aload, po_istore, po_astore, po_iinc, po_iadd, po_isub, po_imul, po_ineg, po_iand, po_ior, po_ishl, po_ishr, po_iushr, po_idiv, po_irem, po_dup, po_dup2, po_pop, po_ifeq, po_ifne, po_iflt, po_ifge, po_ifgt, po_ifle, po_iceq, po_icne, po_iclt, po_icge, po_icgt, po_icle, po_ifnull, po_ifnull1, po_ret, po_iret, po_zret, po_lret, po_aret, po_getf, po_puti, po_putz, po_putl, po_puta, po_iaload, po_iastore, po_alen, po_baload, po_bastore, po_laload, po_lastore, po_aaload, po_aastore, po_invB, po_stcB, po_stcB0, po_iniB, po_new, po_newa, po_obj, po_ladd, po_lsub, po_lmul, po_ldiv, po_lrem, po_land, po_lor, po_lshl, po_lushr, po_i2l, po_l2i, po_i2c, po_lcmp, po_lstore, po_tsw, po_gets, po_max, po_min, po_maxl, po_minl, po_acopy, po_ixor, po_lds, po_slen, po_sidx, po_invT, po_stcT, po_stcT0, sk_swt, kX5_letterIn_0, kX5_handIn_0, kX5_strengthIn_0, kX5_weakened_0, kX5_codeAt_0, kX5_put_0, kX7_isSkin_0, kX7_wide_0, kX7_rows_0, kX7_legible_0, kX7_coinsAtFirst_0, kX7_cells_0, kX7_spots_0, kX7_hasCell_0, kX7_hasRow_0, kX7_hasHand_0, kX7_ofHand_0, kX7_firstOf_0, kX7_rowOf_0, kX7_placeOf_0, kX10_isLetter_0, kX10_signAt_0, kX8_writingAt_0, kX8_lawThatHolds_0, kX8_lets_0, kX9_rewind_0, kX9_step_0, kX9_stepBack_0, kX9_cut_0, kX3_clear_0, kX3_add_0, kX6_judge_0, kX6_swap_0, kX1_push_0, kX1_pop_0, kX0_forget_0, kX11_refuse_0, kX11_draw_0, kX12_in_0, kX12_has_0, kX12_here_0, kX12_bad_0, kX12_isDigit_0, kX12_isSign_0, kX12_isInk_0, kX12_of_0, kX12_setOf_0, kX12_isCell_0, kX12_isHand_0, kX12_isRow_0, kX12_isWriting_0, kX12_isLegible_0, kX12_signOf_0, kX12_areYears_0, kX12_isRefused_0, kX12_draw_0, sk_nth, sk_set, sk_lok, sk_isL, sk_one, sk_pop, sk_wt, sk_cat, sk_ent, sk_pad, sk_tl_n, sk_tl_s, List.length_cons, List.length_nil, true_and, and_true, Bool.not_false, sk_F_at, Option.getD_some, sk_w_id, sk_I_at, sk_isI, false_implies, true_implies, forall_const, ne_eq, not_true_eq_false, not_false_eq_true, implies_true, true_or, or_true, va_up_self, va_up_ne, va_up_up, sk_I_up, p1, md_F0, md_F1, md_F2, md_F3, md_F4, md_F5, md_F6, md_F7, md_F8, md_F9, md_F10, md_F11, md_F12, md_F13, md_F14, md_F15, md_F16, md_F17, md_F18, md_F19, md_F20, md_F21, md_F22, md_F23, md_F24, md_F25, md_F26, md_F27, md_F28, md_F29, md_F30, md_F31, md_F32, md_F33, md_F34, md_F35, md_F36, md_F37, md_F38, md_F39, md_F40, md_F41, md_F42, md_F43, md_F44, md_F45, md_F46, md_F47, md_F48, md_u0, md_u2, md_u3, md_u4, md_u5, md_u13, md_u14, md_u19, md_u22, md_u23, md_u27, md_u30, md_u31, md_u33, md_u35, md_u36, md_u45, md_u48, md_upl]
  and_intros <;> intros <;> and_intros <;> intros <;> and_intros <;> intros <;> and_intros <;> intros <;> and_intros <;> intros <;> and_intros <;> intros <;> and_intros <;> intros <;> and_intros <;> intros <;> and_intros <;> try first | omega | rfl | assumption
  · exact hN (by omega)
  · exact hY (by omega) (by omega) _ (md_put h)
  · exact hN (by omega)
end MODEL
