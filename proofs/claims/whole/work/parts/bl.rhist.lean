/-! ===== both sides: acts kept, undone; years ===== -/
section WX
variable {nh : Int} {hold : Option (List lq_C)} {Hd : Int → Int} {W l cells hands : Int} {nw : Int → Int}
theorem mg_fd (l0 : 0 ≤ l) (l1 : l < 40) : ∀ (n : Nat) (i : Int) (nw : Int → Int), 0 ≤ i → i + n ≤ 6 → mn_ok nw → ng nh nw → mn_ok (sk_fd (m_fs hold Hd W l) i n nw) ∧ ng nh (sk_fd (m_fs hold Hd W l) i n nw) ∧ sk_fd (m_fs hold Hd W l) i n nw l = nw l
  | 0, i, nw, _, _, h, hg => ⟨h, hg, rfl⟩
  | n + 1, i, nw, i0, i1, h, hg => by
    have fi := m_fad_in hold Hd W nw l i
    obtain ⟨-, -, t0, t1⟩ := hg (6 * l + i) (by omega) (by omega)
    have mx := sk_max_in 0 (nw (40 + 3 * (6 * l + i) + 2) - m_fad hold Hd W nw l i)
    simp only [sk_fd]
    have r := mg_fd l0 l1 n (i + 1) (m_fs hold Hd W l i nw) (by omega) (by omega) (mn_up h (fun _ _ => by omega) (fun _ _ => by omega)) (ng_up hg (fun k _ _ => ⟨fun _ => by omega, fun _ => by omega, fun _ => by omega⟩))
    refine ⟨r.1, r.2.1, r.2.2.trans ?_⟩
    unfold m_fs
    exact sk_up_ne _ _ (by omega)
theorem mg_fc {s : (Int → Int) × Int} (l0 : 0 ≤ l) (l1 : l < 40) (h : mn_ok s.1) (hg : ng nh s.1) : mn_ok (m_fc hold Hd W l s).1 ∧ ng nh (m_fc hold Hd W l s).1 := by
  have k := h.1 l l0 l1
  have r := mg_fd (hold := hold) (Hd := Hd) (W := W) l0 l1 (s.1 l).toNat 0 s.1 (by omega) (by omega) h hg
  have e : m_fd hold Hd W l s.1 = sk_fd (m_fs hold Hd W l) 0 (s.1 l).toNat s.1 := rfl
  unfold m_fc
  simp only []
  rw [e]
  exact ⟨mn_cln l0 l1 r.1, ng_clean l0 l1 r.2.1 (by omega)⟩
theorem mg_ls : ∀ (n : Nat) (i : Int) (s : (Int → Int) × Int), 0 ≤ i → i + n ≤ 40 → mn_ok s.1 → ng nh s.1 → mn_ok (sk_fd (m_fc hold Hd W) i n s).1 ∧ ng nh (sk_fd (m_fc hold Hd W) i n s).1
  | 0, i, s, _, _, h, hg => ⟨h, hg⟩
  | n + 1, i, s, i0, i1, h, hg => by
    have r := mg_fc (hold := hold) (Hd := Hd) (W := W) (l := i) (s := s) i0 (by omega) h hg
    simp only [sk_fd]
    exact mg_ls n (i + 1) _ (by omega) (by omega) r.1 r.2
theorem mg_lv (c0 : 0 ≤ cells) (c1 : cells ≤ 40) (h : mn_ok nw) (hg : ng nh nw) : mn_ok (m_lv hold Hd W cells nw) ∧ ng nh (m_lv hold Hd W cells nw) := by
  have r := mg_ls (hold := hold) (Hd := Hd) (W := W) cells.toNat 0 (nw, 0) (by omega) (by omega) h hg
  exact ⟨mn_hi r.1 (by omega), ng_hi r.2 (by omega)⟩
theorem mg_shf : ∀ (n : Nat) (k : Int) (f : Int → Int), 3 ≤ k → mn_ok f → ng nh f → mn_ok (sk_fd (fun k f => sk_up f (763 + k - 3) (f (763 + k))) k n f) ∧ ng nh (sk_fd (fun k f => sk_up f (763 + k - 3) (f (763 + k))) k n f)
  | 0, _, _, _, h, hg => ⟨h, hg⟩
  | n + 1, k, f, k3, h, hg => by
    simp only [sk_fd]
    exact mg_shf n (k + 1) _ (by omega) (mn_hi h (by omega)) (ng_hi hg (by omega))
theorem mg_sh (h : mn_ok nw) (hg : ng nh nw) : mn_ok (m_sh nw) ∧ ng nh (m_sh nw) := by
  unfold m_sh
  split
  · have r := mg_shf (nh := nh) 177 3 nw (by omega) h hg
    exact ⟨mn_hi r.1 (by omega), ng_hi r.2 (by omega)⟩
  · exact ⟨h, hg⟩
theorem wx_hs6 {k : Int} (h : wx nh nw k) : hs6 nw := h.1.1
theorem wx_py {R : Int → Int} {k : Int} (c0 : 0 ≤ cells) (c1 : cells ≤ 40) (h : wx nh nw k) : wx nh (m_py hold Hd R cells hands nw) (k + 1) := by
  obtain ⟨h1, h2, y0, y1, z0, z1⟩ := h
  have a := mg_lv (hold := hold) (Hd := Hd) (W := R 0) c0 c1 h1 h2
  have b := mg_sh a.1 a.2
  have at3 := m_py_at (hold := hold) (Hd := Hd) (R := R) (cells := cells) (hands := hands) h1.1 c0 c1 z0 z1
  have z2 : 0 ≤ m_sh (m_lv hold Hd (R 0) cells nw) 762 := by
    have ls := m_ls_hi (hold := hold) (Hd := Hd) (W := R 0) (cells := cells) h1.1 c0 c1
    have e : m_lv hold Hd (R 0) cells nw 762 = nw 762 := by unfold m_lv; rw [sk_up_ne _ _ (by omega)]; exact ls.2 762 (by omega)
    rw [m_sh_762, e]
    split <;> omega
  refine ⟨?_, ?_, by omega, by omega, by rw [at3.2.2]; split <;> omega, by rw [at3.2.2]; split <;> omega⟩
  · exact mn_hi (mn_hi (mn_hi (mn_hi b.1 (by omega)) (by omega)) (by omega)) (by omega)
  · exact ng_hi (ng_hi (ng_hi (ng_hi b.2 (by omega)) (by omega)) (by omega)) (by omega)
theorem wx_c {w w' : Int → Int} {k : Int} (h : wx nh w k) (e : ∀ j, 0 ≤ j → j < 943 → w' j = w j) : wx nh w' k := by
  obtain ⟨⟨a1, a2⟩, h2, y0, y1, z0, z1⟩ := h
  refine ⟨⟨fun c c0 c1 => by rw [e c c0 (by omega)]; exact a1 c c0 c1, fun j j0 j1 => by rw [e j (by omega) (by omega)]; exact a2 j j0 j1⟩, fun k k0 k1 => ?_, ?_⟩
  · rw [e _ (by omega) (by omega), e _ (by omega) (by omega), e _ (by omega) (by omega)]
    exact h2 k k0 k1
  · rw [e 761 (by omega) (by omega), e 762 (by omega) (by omega)]
    exact ⟨y0, y1, z0, z1⟩
end WX
/-- a page and a row say the same -/
def sn (cells hands nh : Int) (f : Int → Int) (c : hC) (w : Int → Int) : Prop := pr cells hands c.1 c.2.1 w ∧ lrel f c.2.2.2.2.1 c.2.2.2.2.2 w ∧ (w 760 = c.2.2.1 ∧ w 761 = c.2.2.2.1 ∧ w 762 = c.2.2.2.2.2) ∧ wx nh w 999 ∧ (0 ≤ c.2.2.1 ∧ c.2.2.1 ≤ 999) ∧ c.2.2.2.2.2 ≤ c.2.2.2.2.1 ∧ pg_ok c.1 c.2.1
section SN
variable {cells hands nh : Int} {f : Int → Int} {c : hC} {w : Int → Int}
theorem sn_c {w' : Int → Int} (h : sn cells hands nh f c w) (e : ∀ j, 0 ≤ j → j < 943 → w' j = w j) : sn cells hands nh f c w' := by
  obtain ⟨h1, h2, ⟨h3, h4, h5⟩, h6, h7, h8⟩ := h
  obtain ⟨-, -, y0, y1, z0, z1⟩ := id h6
  refine ⟨pr_hi h1 (fun j j0 j1 => e j j0 (by omega)), fun a b a0 a1 b0 b2 => ?_, ⟨(e _ (by omega) (by omega)).trans h3, (e _ (by omega) (by omega)).trans h4, (e _ (by omega) (by omega)).trans h5⟩, wx_c h6 e, h7, h8⟩
  rw [e _ (by omega) (by omega)]
  exact h2 a b a0 a1 b0 b2
theorem sn_f {f' : Int → Int} (h : sn cells hands nh f c w) (e : ∀ a b, 0 ≤ a → a < c.2.2.2.2.2 → 0 ≤ b → b ≤ 2 → f' ((c.2.2.2.2.1 - 1 - a) % 100 * 3 + b) = f ((c.2.2.2.2.1 - 1 - a) % 100 * 3 + b)) : sn cells hands nh f' c w := by
  obtain ⟨h1, h2, h3, h6, h7, h8⟩ := h
  exact ⟨h1, fun a b a0 a1 b0 b2 => (h2 a b a0 a1 b0 b2).trans (e a b a0 a1 b0 b2).symm, h3, h6, h7, h8⟩
theorem sn_f' {f' : Int → Int} (h : sn cells hands nh f c w) (e : ∀ j, 0 ≤ j → j < 300 → f' j = f j) : sn cells hands nh f' c w := sn_f h (fun a b a0 a1 b0 b2 => e _ (by omega) (by omega))
theorem sn_p {c' : hC} (c0 : 0 ≤ cells) (h : sn cells hands nh f c w) (e : pg_eq c.1 c.2.1 c'.1 c'.2.1) (e2 : c'.2.2 = c.2.2) : sn cells hands nh f c' w := by
  obtain ⟨h1, h2, h3, h6, h7, h8⟩ := h
  unfold sn
  rw [e2]
  exact ⟨pr_eq c0 h1 e, h2, h3, h6, h7, h8.1, pg_eq_ok e h8.2⟩
/-- what was kept: pages in their ring, rows; sl: by how much the latest may lie behind -/
def hrl (cells hands nh : Int) (f : Int → Int) (lo sl : Int) (cnt : Int → hC) (next kept : Int) (y : Int → Int) : Prop := (∀ t, 0 ≤ t → t < kept → sn cells hands nh f (cnt ((next + 39 - t) % 40)) (fun j => y (943 * (kept - 1 - t) + j)) ∧ 0 ≤ lo - (cnt ((next + 39 - t) % 40)).2.2.2.2.1 ∧ lo - (cnt ((next + 39 - t) % 40)).2.2.2.2.1 ≤ t + sl) ∧ ∀ s t, 0 ≤ s → s ≤ t → t < kept → 0 ≤ (cnt ((next + 39 - s) % 40)).2.2.2.2.1 - (cnt ((next + 39 - t) % 40)).2.2.2.2.1 ∧ (cnt ((next + 39 - s) % 40)).2.2.2.2.1 - (cnt ((next + 39 - t) % 40)).2.2.2.2.1 ≤ t - s
theorem hrl_sl {lo sl sl' : Int} {cnt : Int → hC} {next kept : Int} {y : Int → Int} (h : hrl cells hands nh f lo sl cnt next kept y) (hs : sl ≤ sl') : hrl cells hands nh f lo sl' cnt next kept y := ⟨fun t t0 t1 => ⟨(h.1 t t0 t1).1, (h.1 t t0 t1).2.1, by have := (h.1 t t0 t1).2.2; omega⟩, h.2⟩
theorem hrl_0 {lo sl : Int} {cnt : Int → hC} {next : Int} {y : Int → Int} : hrl cells hands nh f lo sl cnt next 0 y := ⟨fun t t0 t1 => by omega, fun s t s0 st t1 => by omega⟩
/-- one more is kept -/
theorem hrl_keep {ly hs : Int → Int} {co ye lo ll : Int} {cnt cnt' : Int → hC} {next kept n' : Int} {y w y' : Int → Int} (c0 : 0 ≤ cells) (n0 : 0 ≤ next) (n1 : next < 40) (k0 : 0 ≤ kept) (k1 : kept ≤ 40) (h : hrl cells hands nh f lo 1 cnt next kept y) (hw : sn cells hands nh f (ly, hs, co, ye, lo, ll) w) (hk : kc cnt cnt' next ly hs (co, ye, lo, ll)) (hp : kp kept y w y' n') : n' + 1 = sk_min 40 (kept + 1) ∧ hrl cells hands nh f lo 0 cnt' ((next + 1) % 40) (sk_min 40 (kept + 1)) y' := by
  obtain ⟨q1, q2, q3⟩ := hk
  obtain ⟨p1, p2, p3⟩ := hp
  have en : n' + 1 = sk_min 40 (kept + 1) := by
    unfold sk_min
    by_cases e : kept < 40
    · have := (p1 e).1; split <;> omega
    · have := (p2 (by omega)).1; split <;> omega
  rw [← en]
  have e0 : ((next + 1) % 40 + 39 - 0) % 40 = next := by omega
  have e1 : ∀ t, 1 ≤ t → ((next + 1) % 40 + 39 - t) % 40 = (next + 39 - (t - 1)) % 40 := fun t ht => by omega
  have e2 : ∀ t, 1 ≤ t → t < n' + 1 → (next + 39 - (t - 1)) % 40 ≠ next := fun t t1 t2 => by
    have : n' + 1 ≤ 40 := by rw [en]; unfold sk_min; split <;> omega
    omega
  have eo : ∀ t, 1 ≤ t → t < n' + 1 → cnt' (((next + 1) % 40 + 39 - t) % 40) = cnt ((next + 39 - (t - 1)) % 40) := fun t t1 t2 => by rw [e1 t t1]; exact q3 _ (e2 t t1 t2)
  have tk : ∀ t, t < n' + 1 → t - 1 < kept := fun t ht => by
    by_cases e : kept < 40
    · have := (p1 e).1; omega
    · have := (p2 (by omega)).1; omega
  have lo0 : (cnt' next).2.2.2.2.1 = lo := by rw [q2]
  refine ⟨rfl, fun t t0 t1 => ?_, fun s t s0 st t1 => ?_⟩
  · by_cases e : t = 0
    · subst e
      rw [e0, lo0]
      refine ⟨?_, by omega, by omega⟩
      refine sn_c (sn_p c0 hw q1 q2) (fun j j0 j1 => ?_)
      rw [show 943 * (n' + 1 - 1 - 0) + j = 943 * n' + j by omega]
      exact p3 j j0 j1
    · rw [eo t (by omega) t1]
      obtain ⟨r1, r2, r3⟩ := h.1 (t - 1) (by omega) (tk t t1)
      refine ⟨sn_c r1 (fun j j0 j1 => ?_), r2, by omega⟩
      by_cases e : kept < 40
      · obtain ⟨z1, z2⟩ := p1 e
        rw [z2 _ (by rw [z1]; omega)]
        rw [z1]
        congr 1
        omega
      · obtain ⟨z1, z2⟩ := p2 (by omega)
        rw [z2 _ (by omega) (by omega)]
        congr 1
        omega
  · by_cases e : s = 0
    · subst e
      rw [e0, lo0]
      by_cases e3 : t = 0
      · subst e3
        rw [e0, lo0]
        omega
      · rw [eo t (by omega) t1]
        obtain ⟨r1, r2, r3⟩ := h.1 (t - 1) (by omega) (tk t t1)
        omega
    · rw [eo t (by omega) t1, eo s (by omega) (by omega)]
      have := h.2 (s - 1) (t - 1) (by omega) (by omega) (tk t t1)
      omega
/-- a year's log spares what is kept -/
theorem hrl_log {lo a b c' : Int} {cnt : Int → hC} {next kept : Int} {y : Int → Int} (k1 : kept ≤ 40) (h : hrl cells hands nh f lo 0 cnt next kept y) : hrl cells hands nh (x_log f lo a b c') (lo + 1) 1 cnt next kept y := by
  refine ⟨fun t t0 t1 => ?_, h.2⟩
  obtain ⟨r1, r2, r3⟩ := h.1 t t0 t1
  have z := r1.2.2.2.1.2.2.2.2.2
  have z2 := r1.2.2.1.2.2
  refine ⟨sn_f r1 (fun u v u0 u1 v0 v2 => x_log_at v0 v2 (by omega)), by omega, by omega⟩
/-- the latest taken back -/
theorem hrl_undo {lo : Int} {cnt : Int → hC} {next kept : Int} {y : Int → Int} (n0 : 0 ≤ next) (n1 : next < 40) (k1 : kept ≤ 40) (k0 : 0 < kept) (h : hrl cells hands nh f lo 1 cnt next kept y) : sn cells hands nh f (cnt ((next + 39) % 40)) (fun j => y (943 * (kept - 1) + j)) ∧ hrl cells hands nh f (cnt ((next + 39) % 40)).2.2.2.2.1 1 cnt ((next + 39) % 40) (kept - 1) y := by
  have e0 : (next + 39 - 0) % 40 = (next + 39) % 40 := by omega
  have e1 : ∀ t, ((next + 39) % 40 + 39 - t) % 40 = (next + 39 - (t + 1)) % 40 := fun t => by omega
  refine ⟨?_, fun t t0 t1 => ?_, fun s t s0 st t1 => ?_⟩
  · have r := (h.1 0 (by omega) k0).1
    rw [e0] at r
    refine sn_c r (fun j _ _ => ?_)
    try simp only []
    congr 1
    omega
  · rw [e1 t]
    have r := (h.1 (t + 1) (by omega) (by omega)).1
    have q := h.2 0 (t + 1) (by omega) (by omega) (by omega)
    rw [e0] at q
    refine ⟨sn_c r (fun j _ _ => ?_), q.1, by omega⟩
    try simp only []
    congr 1
    omega
  · rw [e1 s, e1 t]
    have := h.2 (s + 1) (t + 1) (by omega) (by omega) (by omega)
    omega
end SN
