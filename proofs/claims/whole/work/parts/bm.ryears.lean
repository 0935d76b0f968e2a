/-! ===== both sides: years ===== -/
theorem mn_pr {cells hands nh : Int} {ly hs w : Int → Int} (hp : pr cells hands ly hs w) (hg : ng nh w) (h4 : nh ≤ 4) : mn_ok w := by
  refine ⟨fun c c0 c1 => ?_, fun j j0 j1 => ?_⟩
  · have := hp.1 c c0 c1
    rw [this.1]
    exact ⟨this.2.1, this.2.2.1⟩
  · obtain ⟨k, hk⟩ : ∃ k, k = (j - 40) / 3 := ⟨_, rfl⟩
    obtain ⟨a, b, c⟩ := hg k (by omega) (by omega)
    have : j = 40 + 3 * k + 0 ∨ j = 40 + 3 * k + 1 ∨ j = 40 + 3 * k + 2 := by omega
    rcases this with e | e | e <;> rw [e] <;> omega
section RYEARS
theorem ng_dy {nh x : Int} {S : Nat → Int} {Y : Nat → Int → Int} {w : Int → Int} (hx : dx S Y) (hH : hb8 nh (Y 14)) (hnh : S 22 ≤ nh) (hg : ng nh w) (hn2 : ng nh (m_wd S Y (x, w)).2 → mn_ok (m_wd S Y (x, w)).2) : ng nh (m_dy S Y (x, w)).2 := by
  obtain ⟨hs, ⟨n0, n6⟩, hw, -, ⟨h1, h4⟩, c1, c40⟩ := hx
  have hwd : ng nh (m_wd S Y (x, w)).2 := by
    unfold m_wd
    by_cases e : dw (nx x) 10 < S 31 ∧ 0 < S 27
    · simp only []
      rw [if_pos e]
      have d2 := dw_in (nx (nx x)) (j := S 27) (by omega) (by omega)
      have d3 := dw_in (nx (nx (nx x))) (j := S 22) (by omega) (by omega)
      have b := hH (2 * dw (nx (nx (nx x))) (S 22)) (by omega) (by omega)
      obtain ⟨w1, w2⟩ := hw _ d2.1 d2.2
      split
      · next q =>
        refine ng_wr hs w1 d3.1 (by omega) b.1 b.2 _ 0 w (by omega) (by have := w1.1; omega) hg (fun k k0 k1 => ?_)
        have a := mo_does_1 q.1 k k0 (by have := w1.1; omega)
        have c := (mo_cell_in (W := Y 13 0) (Hh := Y 13 1) (line := Y 15 (3 * (16 * dw (nx (nx x)) (S 27) + k) + 1)) (i := Y 15 (3 * (16 * dw (nx (nx x)) (S 27) + k) + 2)) (l := dw (nx (nx (nx (nx x)))) (S 23)) (way := dw (nx (nx (nx (nx (nx x))))) 4) hs.1 hs.2.1 hs.2.2.1 hs.2.2.2).1
        change -1 ≤ mo_at Y (dw (nx (nx x)) (S 27)) k (dw (nx (nx (nx (nx x)))) (S 23)) (dw (nx (nx (nx (nx (nx x))))) 4) at c
        omega
      · exact hg
    · simp only []
      rw [if_neg e]
      exact hg
  have hn2 := hn2 hwd
  unfold m_dy
  generalize m_wd S Y (x, w) = s at *
  unfold m_sd
  split
  · exact hwd
  · have d := dw_in (nx (nx s.1)) (j := Y 13 1) (by have := hs.2.2.1; omega) (by have := hs.2.2.2; omega)
    obtain ⟨r0, r1⟩ := mo_rowb hs d.1 d.2
    exact ng_scr (by omega) (by omega) r0 r1 _ 0 (s.2, 0) (by omega) (by have := hs.1; omega) hwd hn2
variable {hold : Option (List lq_C)} {H R Hd R' : Int → Int} {cells hands nh co : Int} {pre : x_W → x_W} {prem : Int → (Int → Int) → Int × (Int → Int)}
theorem years_eq (hc : cells = R 0 * R 1) (c0 : 0 ≤ cells) (c1 : cells ≤ 40) (h0 : 0 ≤ hands) (h4 : hands ≤ 4) (hH : xH H hands) (hHd : ∀ j, 0 ≤ j → j < 2 * hands → Hd j = H j) (hR0 : R' 0 = R 0) (hR2 : R' 2 = R 2)
    (hpre : ∀ (dr : Int) (ly hs w : Int → Int), pr cells hands ly hs w → wx nh w 999 → pg_ok ly hs → pg_ok (pre (dr, ly, hs)).2.1 (pre (dr, ly, hs)).2.2 ∧ (pre (dr, ly, hs)).1 = (prem dr w).1 ∧ pr cells hands (pre (dr, ly, hs)).2.1 (pre (dr, ly, hs)).2.2 (prem dr w).2 ∧ wx nh (prem dr w).2 999 ∧ ∀ j, 760 ≤ j → (prem dr w).2 j = w j) :
    ∀ (k : Nat) (dr : Int) (cnt : Int → hC) (next kept : Int) (ly hs : Int → Int) (ye lo ll : Int) (f y w : Int → Int) (dr' : Int) (cnt' : Int → hC) (next' kept' : Int) (ly' hs' : Int → Int) (ye' lo' ll' : Int) (f' y' w' : Int → Int) (x' n' : Int), 0 ≤ next → next < 40 → 0 ≤ kept → kept ≤ 40 → ye + k ≤ 999 → hrl cells hands nh f lo 1 cnt next kept y → sn cells hands nh f (ly, hs, co, ye, lo, ll) w → xyr hold H R hands co pre k (dr, cnt, next, kept, ly, hs, ye, lo, ll, f) (dr', cnt', next', kept', ly', hs', ye', lo', ll', f') → yrR (fun x w => ((prem x w).1, m_py hold Hd R' cells hands (prem x w).2)) k dr kept y w x' n' y' w' →
      dr' = x' ∧ kept' = n' ∧ ye' = ye + k ∧ lo' = lo + k ∧ (0 ≤ next' ∧ next' < 40) ∧ (0 ≤ kept' ∧ kept' ≤ 40) ∧ hrl cells hands nh f' lo' 1 cnt' next' kept' y' ∧ sn cells hands nh f' (ly', hs', co, ye', lo', ll') w' := by
  intro k
  induction k with
  | zero =>
    intro dr cnt next kept ly hs ye lo ll f y w dr' cnt' next' kept' ly' hs' ye' lo' ll' f' y' w' x' n' n0 n1 k0 k1 hy hh hs1 hx hr
    simp only [xyr, Prod.mk.injEq] at hx
    obtain ⟨rfl, rfl, rfl, rfl, rfl, rfl, rfl, rfl, rfl, rfl⟩ := hx
    obtain ⟨rfl, rfl, rfl, rfl⟩ := hr
    exact ⟨rfl, rfl, by omega, by omega, ⟨n0, n1⟩, ⟨k0, k1⟩, hh, hs1⟩
  | succ k ih =>
    intro dr cnt next kept ly hs ye lo ll f y w dr' cnt' next' kept' ly' hs' ye' lo' ll' f' y' w' x' n' n0 n1 k0 k1 hy hh hs1 hx hr
    obtain ⟨ca, hkc, hx⟩ := hx
    obtain ⟨fk, c, hkp, hr⟩ := hr
    obtain ⟨en, hh1⟩ := hrl_keep c0 n0 n1 k0 k1 hh hs1 hkc hkp
    obtain ⟨p1, p2, ⟨p3, p4, p5⟩, p6, p7, p8, p9⟩ := id hs1
    obtain ⟨q0, q1, q2, q3, q4⟩ := hpre dr ly hs w p1 p6 p9
    have z0 := p6.2.2.2.2
    have eye : w 761 = ye := p4
    have ell : w 762 = ll := p5
    have eco : w 760 = co := p3
    have l2 : lrel f lo ll (prem dr w).2 := fun a b a0 a1 b0 b2 => by rw [q4 _ (by omega)]; exact p2 a b a0 a1 b0 b2
    have py := pr_py (hold := hold) (H := H) (Hd := Hd) (R := R) (R' := R') (f := f) (co := co) (ye := ye) (lo := lo) (ll := ll) q2 l2 hc hR0 hR2 c0 c1 h0 h4 hH hHd ((q4 _ (by omega)).trans eco) ((q4 _ (by omega)).trans eye) ((q4 _ (by omega)).trans ell) (by omega) (by omega)
    have wq : wx nh (prem dr w).2 ye := ⟨q3.1, q3.2.1, q3.2.2.1, by rw [q4 _ (by omega), eye]; omega, q3.2.2.2.2⟩
    have wq2 := wx_py (hold := hold) (Hd := Hd) (R := R') (cells := cells) (hands := hands) c0 c1 wq
    have w9 : wx nh (m_py hold Hd R' cells hands (prem dr w).2) 999 := ⟨wq2.1, wq2.2.1, wq2.2.2.1, by have := wq2.2.2.2.1; omega, wq2.2.2.2.2⟩
    have k9 : sk_min 40 (kept + 1) ≤ 40 ∧ 0 ≤ sk_min 40 (kept + 1) := by unfold sk_min; split <;> omega
    have hh2 := hrl_log (a := (x_yr hold H R hands ye (pre (dr, ly, hs)).2.1 (pre (dr, ly, hs)).2.2).2.2) (b := sk_sm (a_str (x_yr hold H R hands ye (pre (dr, ly, hs)).2.1 (pre (dr, ly, hs)).2.2).1 (x_yr hold H R hands ye (pre (dr, ly, hs)).2.1 (pre (dr, ly, hs)).2.2).2.1) 0 4) (c' := sk_sm (x_ct (x_yr hold H R hands ye (pre (dr, ly, hs)).2.1 (pre (dr, ly, hs)).2.2).1 (x_yr hold H R hands ye (pre (dr, ly, hs)).2.1 (pre (dr, ly, hs)).2.2).2.1 (R 2) 7) 0 (R 0 * R 1).toNat) k9.1 hh1
    have m9 : sk_min 60 (ll + 1) ≤ lo + 1 := by
      have : ll ≤ lo := p8
      unfold sk_min
      split <;> omega
    have hr' : yrR (fun x w => ((prem x w).1, m_py hold Hd R' cells hands (prem x w).2)) k (pre (dr, ly, hs)).1 (sk_min 40 (kept + 1)) fk (m_py hold Hd R' cells hands (prem dr w).2) x' n' y' w' := by
      rw [q1, ← en]
      exact hr
    obtain ⟨r1, r2, r3, r4, r5⟩ := ih (pre (dr, ly, hs)).1 ca ((next + 1) % 40) (sk_min 40 (kept + 1)) _ _ (ye + 1) (lo + 1) (sk_min 60 (ll + 1)) _ fk _ dr' cnt' next' kept' ly' hs' ye' lo' ll' f' y' w' x' n' (by omega) (by omega) k9.2 k9.1 (by omega) hh2 ⟨py.1, py.2.1, ⟨py.2.2.1, py.2.2.2.1, py.2.2.2.2⟩, w9, p7, m9, pg_yr hH (by omega) q0⟩ hx hr'
    exact ⟨r1, r2, by omega, by omega, r5⟩
theorem ay_yr {step : (Int → Int) → (Int → Int)} : ∀ (k : Nat) (x n : Int) (y w : Int → Int) (n' : Int) (y' w' : Int → Int), ayR step k n y w n' y' w' → yrR (fun x w => (x, step w)) k x n y w x n' y' w'
  | 0, x, n, y, w, n', y', w', h => ⟨rfl, h⟩
  | k + 1, x, n, y, w, n', y', w', ⟨f, c, h1, h2⟩ => ⟨f, c, h1, ay_yr k x _ _ _ _ _ _ h2⟩
end RYEARS
