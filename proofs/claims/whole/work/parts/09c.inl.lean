/-! ===== calls of small methods, their walk written in ===== -/
def o_invT (w : sk_W) (mx n ci : Nat) (K : sk_P → sk_K) (k : sk_K) : sk_K := fun L st M => match sk_pop (n + 1) [] st with
  | some (.inr (.inr (some a)) :: as, r) => (M.2 a).1 = ci ∧ sk_wt r ≤ 8 ∧ 1 ≤ w.2.1 ∧ (sk_ent (.inr (.inr (some a)) :: as)).length ≤ mx ∧ K (fun v M' => k L (sk_tl v r) M') (sk_pad mx (sk_ent (.inr (.inr (some a)) :: as))) [] M
  | _ => False
def o_stcT (w : sk_W) (mx n : Nat) (K : sk_P → sk_K) (k : sk_K) : sk_K := fun L st M => match sk_pop n [] st with
  | some (as, r) => sk_wt r ≤ 8 ∧ 1 ≤ w.2.1 ∧ (sk_ent as).length ≤ mx ∧ K (fun v M' => k L (sk_tl v r) M') (sk_pad mx (sk_ent as)) [] M
  | _ => False
section INL
variable {w : sk_W} {pc : Nat} {k : sk_K} {X : sk_X} {n ci index N mx : Nat} {T : u_T} {K : sk_P → sk_K}
theorem s_invT (hK : ∀ Q, sk_S (w.1, w.2.1 - 1, 0, 0, X, Q) 0 (K Q)) (hmx : X.2.2.1 = mx) (hd : decode (sk_bc w) pc = .ok (.invokevirtual index, 3)) (hm : sk_mok X n) (hc : vwCl[ci]? = some (X.1.cls, T, N)) (hci : ci < 20) (hl : Cond.methodLink w.2.2.2.2.1.1.cls index X.1 ∈ lw_tbl) (hin : Cond.instanceMethod X.1 ∈ lw_tbl) (hse : Cond.selects X.1.cls X.1 X.1 ∈ lw_tbl) (hk : sk_S w (pc + 3) k) : sk_S w pc (o_invT w mx n ci K k) := by
  subst hmx
  intro L st M h
  refine s_invB (ck := 0) (sk := 0) (w' := w) hd hm hc hci hl hin hse rfl hk L st M ?_
  unfold o_invT at h
  unfold o_invB
  split at h
  next a as r hp =>
    rw [hp]
    exact ⟨h.1, h.2.1, h.2.2.1, Nat.zero_le _, Nat.zero_le _, h.2.2.2.1, hK _ _ _ _ h.2.2.2.2⟩
  next => exact h.elim
theorem s_stcT (hK : ∀ Q, sk_S (w.1, w.2.1 - 1, 0, 0, X, Q) 0 (K Q)) (hmx : X.2.2.1 = mx) (hd : decode (sk_bc w) pc = .ok (.invokestatic index, 3)) (hm : sk_mok X n) (hl : Cond.methodLink w.2.2.2.2.1.1.cls index X.1 ∈ lw_tbl) (hst : Cond.static X.1 ∈ lw_tbl) (hk : sk_S w (pc + 3) k) : sk_S w pc (o_stcT w mx n K k) := by
  subst hmx
  intro L st M h
  refine s_stcB (ck := 0) (sk := 0) (w' := w) hd hm hl hst rfl hk L st M ?_
  unfold o_stcT at h
  unfold o_stcB
  split at h
  next as r hp =>
    rw [hp]
    exact ⟨h.1, h.2.1, Nat.zero_le _, Nat.zero_le _, h.2.2.1, hK _ _ _ _ h.2.2.2⟩
  next => exact h.elim
end INL
