/-! ===== the page and the row: a cell fades, a year goes by, the log ===== -/
section RYEAR
variable {hold : Option (List lq_C)} {H Hd : Int → Int} {W yr : Int} {cells hands : Int} {ly hs nw : Int → Int} {c : Int}
theorem fad_eq (h : prc hands ly hs nw c) (hH : xH H hands) (hHd : ∀ j, 0 ≤ j → j < 2 * hands → Hd j = H j) (hy : yr = nw 761 % 100) {k : Int} (k0 : 0 ≤ k) (k1 : k < hs c) : x_fad hold H hands (ly (6 * c + k)) (hs c - 1 - k) (c / W) yr = m_fad hold Hd W nw c k := by
  obtain ⟨p1, p2, p3, p4⟩ := h
  obtain ⟨q1, q2, q3, q4, ⟨q5, q6⟩, q7⟩ := p4 k k0 k1
  have e1 : nw (40 + 3 * (6 * c + k) + 1) = a_h6 ly c k := q2
  have e2 : nw (40 + 3 * (6 * c + k) + 2) = a_s6 ly c k := q3
  have o1 : x_oh H hands (ly (6 * c + k) / 16 % 4) 1 = Hd (2 * a_h6 ly c k + 1) := by
    have e9 : ly (6 * c + k) / 16 % 4 = a_h6 ly c k := rfl
    unfold x_oh
    rw [e9, if_pos q6, hHd _ (by omega) (by omega)]
  have o0 : x_oh H hands (ly (6 * c + k) / 16 % 4) 0 = Hd (2 * a_h6 ly c k + 0) := by
    have e9 : ly (6 * c + k) / 16 % 4 = a_h6 ly c k := rfl
    unfold x_oh
    rw [e9, if_pos q6, hHd _ (by omega) (by omega)]
  have b1 := hH (2 * a_h6 ly c k + 1) (by omega) (by omega)
  unfold x_fad m_fad
  cases hold with
  | none =>
    try simp only []
    rw [o1, e1, hHd _ (by omega) (by omega)]
    unfold sk_max sk_min
    repeat' split <;> try omega
  | some qs =>
    try simp only []
    rw [o1, o0, e1, e2, p1, hy]
    rfl
theorem x_fs_out {row h : Int} {j : Int} (hj : j < 6 * c ∨ 6 * c + 6 ≤ j) : ∀ (n : Nat) (i : Int) (s : Int × (Int → Int)), 0 ≤ s.1 → s.1 ≤ i → i + n ≤ 6 → (sk_fd (x_fs hold H hands row yr h c) i n s).2 j = s.2 j
  | 0, _, _, _, _, _ => rfl
  | n + 1, i, s, s0, s1, hi => by
    simp only [sk_fd]
    have k : (x_fs hold H hands row yr h c i s).1 = s.1 + 1 ∧ (x_fs hold H hands row yr h c i s).2 j = s.2 j ∨ x_fs hold H hands row yr h c i s = s := by
      unfold x_fs
      split
      · exact Or.inl ⟨rfl, sk_up_ne _ _ (by push_cast at hi; omega)⟩
      · exact Or.inr rfl
    rcases k with ⟨k1, k2⟩ | k
    · rw [x_fs_out hj n (i + 1) _ (by omega) (by omega) (by push_cast at hi; omega), k2]
    · rw [k, x_fs_out hj n (i + 1) s s0 (by omega) (by push_cast at hi; omega)]
theorem x_fs_n {row h : Int} : ∀ (n : Nat) (i : Int) (s : Int × (Int → Int)), 0 ≤ s.1 → s.1 ≤ i → 0 ≤ (sk_fd (x_fs hold H hands row yr h c) i n s).1 ∧ (sk_fd (x_fs hold H hands row yr h c) i n s).1 ≤ i + n
  | 0, i, s, s0, s1 => by simp only [sk_fd]; push_cast; omega
  | n + 1, i, s, s0, s1 => by
    simp only [sk_fd]
    have k : 0 ≤ (x_fs hold H hands row yr h c i s).1 ∧ (x_fs hold H hands row yr h c i s).1 ≤ i + 1 := by
      unfold x_fs
      split
      · try simp only []; omega
      · omega
    have r := x_fs_n (row := row) (h := h) n (i + 1) (x_fs hold H hands row yr h c i s) k.1 k.2
    push_cast
    omega
theorem pr_fc1 (h : prc hands ly hs nw c) (c0 : 0 ≤ c) (c1 : c < 40) (hH : xH H hands) (hHd : ∀ j, 0 ≤ j → j < 2 * hands → Hd j = H j) (hy : yr = nw 761 % 100) (acc acc' : Int) : prc hands (x_fc hold H hands W yr c (ly, hs, acc)).1 (x_fc hold H hands W yr c (ly, hs, acc)).2.1 (m_fc hold Hd W c (nw, acc')).1 c ∧ (x_fc hold H hands W yr c (ly, hs, acc)).2.2 - acc = (m_fc hold Hd W c (nw, acc')).2 - acc' := by
  obtain ⟨p1, p2, p3, p4⟩ := id h
  obtain ⟨hn, ehn⟩ : ∃ hn : Nat, hs c = hn := ⟨(hs c).toNat, by omega⟩
  have en : (hs c).toNat = hn := by omega
  have fd := m_fd_at (hold := hold) (Hd := Hd) (W := W) (nw := nw) c0 c1 hn 0 nw (by omega) (by omega) (fun j _ => rfl) (fun q a b => by omega)
  obtain ⟨nw1, hw1⟩ : ∃ nw1, nw1 = sk_fd (m_fs hold Hd W c) 0 hn nw := ⟨_, rfl⟩
  rw [← hw1] at fd
  have ec : nw1 c = nw c := fd.1 c (fun q _ _ => by omega)
  have st := fc_step (hold := hold) (H := H) (hands := hands) (row := c / W) (yr := yr) (h := hs c) (c := c) (ly := ly) (nw1 := nw1) c0 c1 p3 (fun k k0 k1 => by
    obtain ⟨q1, q2, q3, q4, q5, q6, q7⟩ := p4 k k0 k1
    refine ⟨?_, ?_, ?_, q4, q5, q6, q7, (x_fad_in hH).1⟩
    · rw [← q1]; unfold mt; exact fd.1 _ (fun q _ _ => by omega)
    · rw [← q2]; unfold mh; exact fd.1 _ (fun q _ _ => by omega)
    · rw [fad_eq (hold := hold) (W := W) h hH hHd hy k0 k1, ← q3]; unfold ms; exact fd.2 k k0 (by omega)) hn 0 0 ly nw1 (by omega) (by omega) (by omega) (fun k _ _ => rfl) (fun k _ _ => ⟨rfl, rfl, rfl⟩) (fun k a b => by omega)
  have nb := x_fs_n (hold := hold) (H := H) (hands := hands) (yr := yr) (c := c) (row := c / W) (h := hs c) hn 0 (0, ly) (by simp) (by simp)
  have ex : x_fc hold H hands W yr c (ly, hs, acc) = ((sk_fd (x_fs hold H hands (c / W) yr (hs c) c) 0 hn (0, ly)).2, sk_up hs c (sk_fd (x_fs hold H hands (c / W) yr (hs c) c) 0 hn (0, ly)).1, acc + (hs c - (sk_fd (x_fs hold H hands (c / W) yr (hs c) c) 0 hn (0, ly)).1)) := by
    unfold x_fc
    try simp only []
    rw [en]
  have em : m_fc hold Hd W c (nw, acc') = (sk_up (sk_fd (m_cl c) 0 hn (0, nw1)).2 c (sk_fd (m_cl c) 0 hn (0, nw1)).1, acc' + (nw c - (sk_fd (m_cl c) 0 hn (0, nw1)).1)) := by
    have e1 : m_fd hold Hd W c nw = nw1 := by unfold m_fd; rw [p1, en, hw1]
    unfold m_fc m_cln
    try simp only []
    rw [e1, ec, p1, en]
  rw [ex, em, ← st.1]
  obtain ⟨t, ht⟩ : ∃ t, t = sk_fd (x_fs hold H hands (c / W) yr (hs c) c) 0 hn (0, ly) := ⟨_, rfl⟩
  rw [← ht] at nb st ⊢
  refine ⟨⟨by (try simp only []); rw [sk_up_self, sk_up_self], by (try simp only []); rw [sk_up_self]; omega, by (try simp only []); rw [sk_up_self]; omega, fun i i0 i1 => ?_⟩, by (try simp only []); omega⟩
  try simp only [] at i1 ⊢
  rw [sk_up_self] at i1
  obtain ⟨s1, s2, s3, s4⟩ := st.2 i i0 i1
  refine ⟨?_, ?_, ?_, s4⟩
  · rw [← s1]; unfold mt; exact sk_up_ne _ _ (by omega)
  · rw [← s2]; unfold mh; exact sk_up_ne _ _ (by omega)
  · rw [← s3]; unfold ms; exact sk_up_ne _ _ (by omega)
theorem x_fc_out {acc j : Int} (h0 : 0 ≤ hs c) (h6 : hs c ≤ 6) (hj : j < 6 * c ∨ 6 * c + 6 ≤ j) : (x_fc hold H hands W yr c (ly, hs, acc)).1 j = ly j := by
  unfold x_fc
  exact x_fs_out hj _ _ _ (by simp) (by simp) (by show 0 + ((hs c).toNat : Int) ≤ 6; omega)
theorem pr_fc (h : pr cells hands ly hs nw) (c0 : 0 ≤ c) (c1 : c < 40) (hH : xH H hands) (hHd : ∀ j, 0 ≤ j → j < 2 * hands → Hd j = H j) (hy : yr = nw 761 % 100) (acc acc' : Int) : pr cells hands (x_fc hold H hands W yr c (ly, hs, acc)).1 (x_fc hold H hands W yr c (ly, hs, acc)).2.1 (m_fc hold Hd W c (nw, acc')).1 ∧ (x_fc hold H hands W yr c (ly, hs, acc)).2.2 - acc = (m_fc hold Hd W c (nw, acc')).2 - acc' := by
  have hc := h.1 c c0 c1
  have k := pr_fc1 (hold := hold) (W := W) hc c0 c1 hH hHd hy acc acc'
  have eh : ∀ j, j ≠ c → (x_fc hold H hands W yr c (ly, hs, acc)).2.1 j = hs j := fun j hj => by unfold x_fc; exact sk_up_ne _ _ hj
  have h6 : nw c ≤ 6 := by rw [hc.1]; exact hc.2.2.1
  refine ⟨⟨fun c' a b => ?_, fun c' a b => ?_⟩, k.2⟩
  · by_cases e : c' = c
    · rw [e]; exact k.1
    · exact prc_mv (h.1 c' a b) (eh c' e) (m_fc_out c0 c1 h6 e (by omega)) (fun i i0 i1 => x_fc_out hc.2.1 hc.2.2.1 (by omega)) (fun j j0 j1 => m_fc_out c0 c1 h6 (by omega) (by omega))
  · by_cases e : c' = c
    · have z := h.2 c' a b
      rw [e] at z ⊢
      unfold x_fc
      try simp only []
      rw [sk_up_self, z]
      rfl
    · rw [eh c' e]; exact h.2 c' a b
theorem pr_fcs (hH : xH H hands) (hHd : ∀ j, 0 ≤ j → j < 2 * hands → Hd j = H j) : ∀ (k : Nat) (i : Int) (s : (Int → Int) × (Int → Int) × Int) (t : (Int → Int) × Int), 0 ≤ i → i + k ≤ 40 → yr = t.1 761 % 100 → pr cells hands s.1 s.2.1 t.1 → pr cells hands (sk_fd (x_fc hold H hands W yr) i k s).1 (sk_fd (x_fc hold H hands W yr) i k s).2.1 (sk_fd (m_fc hold Hd W) i k t).1 ∧ (sk_fd (x_fc hold H hands W yr) i k s).2.2 - s.2.2 = (sk_fd (m_fc hold Hd W) i k t).2 - t.2 := by
  intro k
  induction k with
  | zero => intro i s t _ _ _ h; exact ⟨h, by simp [sk_fd]⟩
  | succ k ih =>
    intro i s t a0 a1 hy h
    push_cast at a1
    have st := pr_fc (hold := hold) (W := W) h a0 (by omega) hH hHd hy s.2.2 t.2
    have hc := h.1 i a0 (by omega)
    have r := ih (i + 1) (x_fc hold H hands W yr i s) (m_fc hold Hd W i t) (by omega) (by omega) (by rw [m_fc_out a0 (by omega) (by rw [hc.1]; exact hc.2.2.1) (by omega) (by omega)]; exact hy) st.1
    refine ⟨r.1, ?_⟩
    have r2 := r.2
    have st2 := st.2
    simp only [sk_fd]
    have e1 : (x_fc hold H hands W yr i (s.1, s.2.1, s.2.2)).2.2 = (x_fc hold H hands W yr i s).2.2 := rfl
    have e2 : (m_fc hold Hd W i (t.1, t.2)).2 = (m_fc hold Hd W i t).2 := rfl
    rw [e1, e2] at st2
    omega
theorem pr_ls {R : Int → Int} {ye : Int} (h : pr cells hands ly hs nw) (hc : cells = R 0 * R 1) (c0 : 0 ≤ cells) (c1 : cells ≤ 40) (hH : xH H hands) (hHd : ∀ j, 0 ≤ j → j < 2 * hands → Hd j = H j) (hy : nw 761 = ye) : pr cells hands (x_yr hold H R hands ye ly hs).1 (x_yr hold H R hands ye ly hs).2.1 (m_ls hold Hd (R 0) cells nw).1 ∧ (x_yr hold H R hands ye ly hs).2.2 = (m_ls hold Hd (R 0) cells nw).2 := by
  have k := pr_fcs (hold := hold) (W := R 0) (yr := ye % 100) (cells := cells) hH hHd cells.toNat 0 (ly, hs, 0) (nw, 0) (by omega) (by omega) (by (try simp only []); rw [hy]) h
  unfold x_yr m_ls
  rw [← hc]
  refine ⟨k.1, ?_⟩
  have := k.2
  try simp only [] at this
  omega
/-- a row that differs only behind the layers -/
theorem pr_hi {nw' : Int → Int} (h : pr cells hands ly hs nw) (e : ∀ j, 0 ≤ j → j < 760 → nw' j = nw j) : pr cells hands ly hs nw' := ⟨fun c a b => prc_mv (h.1 c a b) rfl (e c a (by omega)) (fun _ _ _ => rfl) (fun j j0 j1 => e j (by omega) (by omega)), h.2⟩
theorem mo_hand_hi {nw' : Int → Int} {k what : Int} (c1 : cells ≤ 40) (h6 : ∀ c, 0 ≤ c → c < 40 → nw c ≤ 6) (e : ∀ j, 0 ≤ j → j < 760 → nw' j = nw j) : mo_hand nw' cells k what = mo_hand nw cells k what := by
  unfold mo_hand
  refine sk_sm_congr _ _ (fun j a b => ?_)
  have := h6 j a (by omega)
  try simp only []
  rw [e j a (by omega)]
  refine sk_sm_congr _ _ (fun i i0 i1 => ?_)
  try simp only []
  unfold mh ms
  rw [e _ (by omega) (by omega), e _ (by omega) (by omega)]
/-- the log -/
def lrel (f : Int → Int) (lo ll : Int) (nw : Int → Int) : Prop := ∀ a b, 0 ≤ a → a < ll → 0 ≤ b → b ≤ 2 → nw (763 + 3 * (ll - 1 - a) + b) = f ((lo - 1 - a) % 100 * 3 + b)
theorem sh_fd : ∀ (n : Nat) (i : Int) (f : Int → Int) (j : Int), sk_fd (fun k f => sk_up f (763 + k - 3) (f (763 + k))) i n f j = if 760 + i ≤ j ∧ j < 760 + i + n then f (j + 3) else f j
  | 0, i, f, j => by simp only [sk_fd]; rw [if_neg (by push_cast; omega)]
  | n + 1, i, f, j => by
    simp only [sk_fd]
    rw [sh_fd n (i + 1)]
    push_cast
    by_cases e : j = 760 + i
    · rw [if_neg (by omega), if_pos (by omega), e, show (763 + i - 3 : Int) = 760 + i by omega, sk_up_self, show (760 + i + 3 : Int) = 763 + i by omega]
    · by_cases z : 760 + (i + 1) ≤ j ∧ j < 760 + (i + 1) + n
      · rw [if_pos z, if_pos (by omega), sk_up_ne _ _ (by omega)]
      · rw [if_neg z, if_neg (by omega), sk_up_ne _ _ (by omega)]
end RYEAR
