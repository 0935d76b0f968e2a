/-! ===== how long until so many are gone: on both sides ===== -/
section RFADED
variable {S : Nat → Int} {Y : Nat → Int → Int} {R H Hd : Int → Int} {wn w spot hands v : Int} {sg ln pl ss lg : Int → Int → Int} {size lines longest : Int → Int} {hold : Option (List lq_C)}
/-- a cell in a year on the reference's side -/
theorem fcs_at {ly hs : Int → Int} {c yr W : Int} (c0 : 0 ≤ c) (c1 : c < 40) (hH : xH H hands) (hHd : ∀ j, 0 ≤ j → j < 2 * hands → Hd j = H j) : ∀ (k : Nat) (i : Int) (t : (Int → Int) × Int), 0 ≤ i → i + k ≤ 40 → prc hands ly hs t.1 c → hs6 t.1 → yr = t.1 761 % 100 → (i ≤ c ∧ c < i + k → prc hands (x_fc hold H hands W yr c (ly, hs, 0)).1 (x_fc hold H hands W yr c (ly, hs, 0)).2.1 (sk_fd (m_fc hold Hd W) i k t).1 c) ∧ (¬ (i ≤ c ∧ c < i + k) → prc hands ly hs (sk_fd (m_fc hold Hd W) i k t).1 c) := by
  intro k
  induction k generalizing ly hs with
  | zero => intro i t i0 i1 h _ _; exact ⟨fun q => by push_cast at q; omega, fun _ => h⟩
  | succ k ih =>
    intro i t i0 i1 h h6 hy
    push_cast at i1
    simp only [sk_fd]
    have ki := h6 i i0 (by omega)
    have h6' : hs6 (m_fc hold Hd W i t).1 := fun c' a b => by
      by_cases e : c' = i
      · subst e
        have := m_fc_l (hold := hold) (Hd := Hd) (W := W) i0 b ki.1 ki.2
        omega
      · rw [m_fc_out i0 (by omega) ki.2 e (by omega)]; exact h6 c' a b
    have hy' : yr = (m_fc hold Hd W i t).1 761 % 100 := by rw [m_fc_out i0 (by omega) ki.2 (by omega) (by omega)]; exact hy
    by_cases e : i = c
    · subst e
      have st := (pr_fc1 (hold := hold) (W := W) h c0 c1 hH hHd hy 0 t.2).1
      have r := (ih (i + 1) (m_fc hold Hd W i t) (by omega) (by omega) st h6' hy').2 (by omega)
      exact ⟨fun _ => r, fun q => absurd ⟨by omega, by push_cast; omega⟩ q⟩
    · have h' : prc hands ly hs (m_fc hold Hd W i t).1 c := prc_mv h rfl (m_fc_out i0 (by omega) ki.2 (by omega) (by omega)) (fun _ _ _ => rfl) (fun j j0 j1 => m_fc_out i0 (by omega) ki.2 (by omega) (by omega))
      have r := ih (i + 1) (m_fc hold Hd W i t) (by omega) (by omega) h' h6' hy'
      exact ⟨fun q => r.1 ⟨by omega, by have := q.2; push_cast at this; omega⟩, fun q => r.2 (fun z => q ⟨by omega, by have := z.2; push_cast; omega⟩)⟩
/-- the cells of the letters are alike -/
def lck (hands : Int) (W spot : Int) (sg ln pl : Int → Int) (lo hi : Int) (s : (Int → Int) × (Int → Int)) (nw : Int → Int) : Prop := ∀ k, lo ≤ k → k < hi → sg k ≠ 26 → prc hands s.1 s.2 nw (xw W ln pl spot k)
theorem fl_eq {ye : Int} {nw : Int → Int} (h : bw S Y R wn sg ln pl ss lg size lines longest) (w0 : 0 ≤ w) (w1 : w < wn) (hdo : rd_does (R 0) (R 1) (lines w) (longest w) spot = true) (hH : xH H hands) (hHd : ∀ j, 0 ≤ j → j < 2 * hands → Hd j = H j) (h6 : hs6 nw) (hy : nw 761 = ye) : ∀ (n : Nat) (i : Int) (s : (Int → Int) × (Int → Int)), 0 ≤ i → i + n = size w → lck hands (R 0) spot (sg w) (ln w) (pl w) 0 i s (m_ls hold Hd (R 0) (R 0 * R 1) nw).1 → lck hands (R 0) spot (sg w) (ln w) (pl w) i (size w) s nw → lck hands (R 0) spot (sg w) (ln w) (pl w) 0 (size w) (sk_fd (x_fl hold H hands (R 0) (ye % 100) (sg w) (ln w) (pl w) spot) i n s) (m_ls hold Hd (R 0) (R 0 * R 1) nw).1 := by
  intro n
  induction n with
  | zero => intro i s i0 hi l1 _; push_cast at hi; rw [show size w = i by omega]; exact l1
  | succ n ih =>
    intro i s i0 hi l1 l2
    push_cast at hi
    simp only [sk_fd]
    have hg := (h.2.2.2.2.2 w w0 w1).2
    have cl := ru_cells h.2.1
    have hW := rd_does_W h.2.1 hdo
    by_cases e : sg w i = 26
    · have x1 : x_fl hold H hands (R 0) (ye % 100) (sg w) (ln w) (pl w) spot i s = s := if_pos e
      rw [x1]
      refine ih (i + 1) s (by omega) (by omega) (fun k k0 k1 z => ?_) (fun k k0 k1 z => l2 k (by omega) k1 z)
      by_cases y : k = i
      · subst y; exact absurd e z
      · exact l1 k k0 (by omega) z
    · have x1 : x_fl hold H hands (R 0) (ye % 100) (sg w) (ln w) (pl w) spot i s = ((x_fc hold H hands (R 0) (ye % 100) (xw (R 0) (ln w) (pl w) spot i) (s.1, s.2, 0)).1, (x_fc hold H hands (R 0) (ye % 100) (xw (R 0) (ln w) (pl w) spot i) (s.1, s.2, 0)).2.1) := if_neg e
      rw [x1]
      obtain ⟨-, a2, a3⟩ := bw_at h w0 w1 hdo i0 (by omega : i < size w)
      have pi := l2 i (by omega) (by omega) e
      have st := (fcs_at (hold := hold) (W := R 0) (yr := ye % 100) a2 (by omega) hH hHd (R 0 * R 1).toNat 0 (nw, 0) (by omega) (by omega) pi h6 (by (try simp only []); rw [hy])).1 ⟨a2, by omega⟩
      have oth : ∀ k nw', 0 ≤ k → k < size w → k ≠ i → prc hands s.1 s.2 nw' (xw (R 0) (ln w) (pl w) spot k) → prc hands (x_fc hold H hands (R 0) (ye % 100) (xw (R 0) (ln w) (pl w) spot i) (s.1, s.2, 0)).1 (x_fc hold H hands (R 0) (ye % 100) (xw (R 0) (ln w) (pl w) spot i) (s.1, s.2, 0)).2.1 nw' (xw (R 0) (ln w) (pl w) spot k) := by
        intro k nw' k0 k1 ki hp
        have ne : xw (R 0) (ln w) (pl w) spot k ≠ xw (R 0) (ln w) (pl w) spot i := fun y => ki (xw_inj hW.1 hg.1 hg.2.1 hdo k0 k1 i0 (by omega) y)
        refine prc_mv hp (by unfold x_fc; exact sk_up_ne _ _ ne) rfl (fun j j0 j1 => x_fc_out pi.2.1 pi.2.2.1 (by omega)) (fun _ _ _ => rfl)
      refine ih (i + 1) _ (by omega) (by omega) (fun k k0 k1 z => ?_) (fun k k0 k1 z => oth k nw (by omega) k1 (by omega) (l2 k (by omega) k1 z))
      by_cases y : k = i
      · subst y; exact st
      · exact oth k _ k0 (by omega) y (l1 k k0 (by omega) z)
theorem who_loc {s : (Int → Int) × (Int → Int)} {nw : Int → Int} {what : Int} (h : bw S Y R wn sg ln pl ss lg size lines longest) (w0 : 0 ≤ w) (w1 : w < wn) (hdo : rd_does (R 0) (R 1) (lines w) (longest w) spot = true) (hl : lck hands (R 0) spot (sg w) (ln w) (pl w) 0 (size w) s nw) : mo_who (va_up Y 18 nw) w spot what = x_who (R 0) (R 2) (sg w) (ln w) (pl w) (size w) spot s.1 s.2 what := by
  have hr := (h.2.2.2.2.2 w w0 w1).1
  have sz := bw_size h w0 w1
  have e15 : va_up Y 18 nw 15 = Y 15 := va_up_ne _ _ (by omega)
  have e16 : va_up Y 18 nw 16 = Y 16 := va_up_ne _ _ (by omega)
  have e13 : va_up Y 18 nw 13 = Y 13 := va_up_ne _ _ (by omega)
  have e18 : va_up Y 18 nw 18 = nw := va_up_self _ _ _
  have ea : ∀ k, mo_at (va_up Y 18 nw) w k (spot / 4) (spot % 4) = mo_at Y w k (spot / 4) (spot % 4) := fun k => by
    unfold mo_at
    rw [e15, e13]
  unfold mo_who x_who
  rw [e16, hr.1]
  refine sk_sm_congr _ _ (fun k k0 k1 => ?_)
  (try simp only [])
  rw [ea, e15, e13, e18, (bw_at h w0 w1 hdo k0 (by omega)).1, (hr.2.1 k k0 (by omega)).1, h.1.2.2]
  by_cases e : sg w k = 26
  · rw [if_neg (fun q => q.1 e), if_neg (fun q => q.1 e)]
  · rw [pr_ver (hl k k0 (by omega) e)]
theorem fdd_eq {ye : Int} (h : bw S Y R wn sg ln pl ss lg size lines longest) (w0 : 0 ≤ w) (w1 : w < wn) (hdo : rd_does (R 0) (R 1) (lines w) (longest w) spot = true) (hH : xH H hands) (hHd : ∀ j, 0 ≤ j → j < 2 * hands → Hd j = H j) : ∀ (k : Nat) (n : Int) (s : (Int → Int) × (Int → Int)) (nw : Int → Int), hs6 nw → nw 761 = ye + n → lck hands (R 0) spot (sg w) (ln w) (pl w) 0 (size w) s nw → x_fdd hold H R hands (sg w) (ln w) (pl w) (size w) spot v ye (k + 1) n s = fdy (fun nw => mo_who (va_up Y 18 nw) w spot 0) (m_lv hold Hd (R 0) (R 0 * R 1)) v k n nw := by
  have cl := ru_cells h.2.1
  have sz := bw_size h w0 w1
  intro k
  induction k with
  | zero =>
    intro n s nw h6 hy hl
    have e9 := who_loc (what := 0) h w0 w1 hdo hl
    simp only [x_fdd, fdy]
    by_cases q : x_who (R 0) (R 2) (sg w) (ln w) (pl w) (size w) spot s.1 s.2 0 < v
    · rw [if_pos q, if_pos (by rw [e9]; exact q)]
    · rw [if_neg q, if_neg (by rw [e9]; exact q)]
  | succ k ih =>
    intro n s nw h6 hy hl
    have ef : fdy (fun nw => mo_who (va_up Y 18 nw) w spot 0) (m_lv hold Hd (R 0) (R 0 * R 1)) v (k + 1) n nw = if mo_who (va_up Y 18 nw) w spot 0 < v then n else fdy (fun nw => mo_who (va_up Y 18 nw) w spot 0) (m_lv hold Hd (R 0) (R 0 * R 1)) v k (n + 1) (m_lv hold Hd (R 0) (R 0 * R 1) nw) := rfl
    have ex : x_fdd hold H R hands (sg w) (ln w) (pl w) (size w) spot v ye (k + 1 + 1) n s = if x_who (R 0) (R 2) (sg w) (ln w) (pl w) (size w) spot s.1 s.2 0 < v then n else x_fdd hold H R hands (sg w) (ln w) (pl w) (size w) spot v ye (k + 1) (n + 1) (sk_fd (x_fl hold H hands (R 0) ((ye + n) % 100) (sg w) (ln w) (pl w) spot) 0 (size w).toNat s) := rfl
    rw [ef, ex, who_loc h w0 w1 hdo hl]
    by_cases q : x_who (R 0) (R 2) (sg w) (ln w) (pl w) (size w) spot s.1 s.2 0 < v
    · rw [if_pos q, if_pos q]
    · rw [if_neg q, if_neg q]
      have hi := m_ls_hi (hold := hold) (Hd := Hd) (W := R 0) h6 cl.1 cl.2.1
      have fl := fl_eq (hold := hold) h w0 w1 hdo hH hHd h6 hy (size w).toNat 0 s (by omega) (by omega) (fun k a b => by omega) hl
      refine ih (n + 1) _ _ (fun c a b => ?_) ?_ (fun k a b z => ?_)
      · unfold m_lv
        rw [sk_up_ne _ _ (by omega)]
        exact hi.1 c a b
      · unfold m_lv
        rw [sk_up_self, hi.2 761 (by omega), hy]
        omega
      · obtain ⟨-, a2, a3⟩ := bw_at h w0 w1 hdo a b
        refine prc_mv (fl k a b z) rfl ?_ (fun _ _ _ => rfl) (fun j j0 j1 => ?_)
        · unfold m_lv; exact sk_up_ne _ _ (by omega)
        · unfold m_lv; exact sk_up_ne _ _ (by omega)
theorem faded_eq {ye : Int} {ly hs ly3 hs3 : Int → Int} (h : bw S Y R wn sg ln pl ss lg size lines longest) (w0 : 0 ≤ w) (w1 : w < wn) (hdo : rd_does (R 0) (R 1) (lines w) (longest w) spot = true) (hH : xH H hands) (hHd : ∀ j, 0 ≤ j → j < 2 * hands → Y 14 j = H j) (hp : pr (R 0 * R 1) hands ly hs (Y 18)) (hy : Y 18 761 = ye) (he : pg_eq ly hs ly3 hs3) : x_fdd hold H R hands (sg w) (ln w) (pl w) (size w) spot v ye 100 0 (ly3, hs3) = mo_fdd hold S Y w spot v := by
  have cl := ru_cells h.2.1
  have hp' := pr_eq cl.1 hp he
  unfold mo_fdd
  rw [h.1.1, h.2.2.1]
  exact fdd_eq h w0 w1 hdo hH hHd 99 0 (ly3, hs3) (Y 18) (fun c a b => by have := hp.1 c a b; rw [this.1]; exact ⟨this.2.1, this.2.2.1⟩) (by omega) (fun k a b _ => by
    obtain ⟨-, a2, a3⟩ := bw_at h w0 w1 hdo a b
    exact hp'.1 _ a2 (by omega))
end RFADED
