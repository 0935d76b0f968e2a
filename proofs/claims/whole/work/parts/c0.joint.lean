/-! ===== both sides at once: what holds between calls ===== -/
section JDEF
def g1 (M : sk_M) (A ra rb : Nat) (R H R2 H2 : Int → Int) (hands h2 : Int) (b1 b2 : Bool) (sc dr : Int) : Prop := xc M A ra rb R H hands (sk_b b1) sc dr ∧ ru_at M rb R2 H2 h2 (sk_b b2)
def g2 (M : sk_M) (A : Nat) (T : Int → Int) (n i : Int) : Prop := tp_at M (A + 1) (A + 2) T n i ∧ tp_ok T n
def g3 (M : sk_M) (A nl nw : Nat) (lc wn ho : Int) (lawF wrF : Int → Option Nat) : Prop := sh_at M A nl nw lc wn ho lawF wrF ∧ (0 ≤ lc ∧ lc ≤ 4) ∧ (0 ≤ wn ∧ wn ≤ 6) ∧ (-1 ≤ ho ∧ ho < lc ∨ (ho = -1 ∧ lc = 0))
def g4 (M : sk_M) (A nl : Nat) : Prop := (∃ (len top : Int) (st lf kk : Int → Int), lwo M nl (nl + 1) (nl + 2) (nl + 3) len top st lf kk) ∧ lhA A nl ∧ nl + 3 < M.1
def g5 (M : sk_M) (A nw : Nat) : Prop := (∃ (sg ln pl ss lg : Int → Int) (size lines longest letters : Int), wr_at M nw sg ln pl ss lg size lines longest letters) ∧ (nw = A + 16 ∨ A + 85 ≤ nw) ∧ nw + 5 < M.1
def g6 (M : sk_M) (A nl : Nat) (lc : Int) (lawF : Int → Option Nat) (lad : Int → Nat) (qs : Int → List lq_C) : Prop := ∀ l, 0 ≤ l → l < lc → lawF l = some (lad l) ∧ lx M (lad l) (qs l) ∧ lhA A (lad l) ∧ lad l + 3 < M.1 ∧ lad l ≠ nl ∧ ∀ l', 0 ≤ l' → l' < lc → l' ≠ l → lad l' ≠ lad l
def g7 (M : sk_M) (A nw : Nat) (wn : Int) (wrF : Int → Option Nat) (wad : Int → Nat) (sg ln pl ss lg : Int → Int → Int) (size lines longest letters : Int → Int) : Prop := ws_at M A wn wrF wad sg ln pl ss lg size lines longest letters ∧ ∀ w, 0 ≤ w → w < wn → wad w + 5 < M.1 ∧ wad w ≠ nw
def g8 (M : sk_M) (A : Nat) (c : hC) (f : Int → Int) : Prop := pg_at M (A + 22) (A + 23) (A + 24) c.1 c.2.1 c.2.2.1 c.2.2.2.1 c.2.2.2.2.1 c.2.2.2.2.2 ∧ lo_at M (A + 28) (A + 29) f
def g10 (M : sk_M) (A : Nat) (c : hC) (f : Int → Int) : Prop := pg_at M (A + 32) (A + 33) (A + 34) c.1 c.2.1 c.2.2.1 c.2.2.2.1 c.2.2.2.2.1 c.2.2.2.2.2 ∧ lo_at M (A + 35) (A + 36) f
def tm (M : sk_M) (A : Nat) : Prop := (∃ ly hs co ye lo ll, pg_at M (A + 25) (A + 26) (A + 27) ly hs co ye lo ll) ∧ (∃ r m b l size, ls_at M (A + 41) r m b l size) ∧ (∃ w r bR bS, rk_at M (A + 46) w r bR bS ∧ x_jb w) ∧ (∃ tf, M.2 (A + 50) = (20, 1080, sk_I tf)) ∧ (∃ sf, M.2 (A + 51) = (20, 4, sk_I sf)) ∧ ∃ rf, M.2 (A + 52) = (20, 12, sk_I rf)
def g14 (g : sk_G) (M : sk_M) (A bs N : Nat) (scr : Int → Int) : Prop := st_at g M ∧ sbd_at g M ∧ (∀ k, k < 6 → g.2.2.2.2 k < A) ∧ (M.2 bs = (30, N, sk_I scr) ∧ bs < A) ∧ (∃ v : Int, M.2 (A + 84) = (22, 1, fun _ => .inr (.inl v))) ∧ A + 85 ≤ M.1
variable {g : sk_G} {M M1 : sk_M} {A ra rb nl nw bs N : Nat} {R H R2 H2 T f nc nle ni rf scr : Int → Int} {hands h2 sc dr n i lc wn ho next kept has nm : Int} {b1 b2 : Bool} {lawF wrF pgs : Int → Option Nat} {lad wad : Int → Nat} {qs : Int → List lq_C} {sg ln pl ss lg : Int → Int → Int} {size lines longest letters : Int → Int} {cnt : Int → hC} {c : hC}
theorem g1_e (h : g1 M A ra rb R H R2 H2 hands h2 b1 b2 sc dr) (e0 : M1.2 A = M.2 A) (he : ∀ q, A + 3 ≤ q → q ≤ A + 8 → M1.2 q = M.2 q) : g1 M1 A ra rb R H R2 H2 hands h2 b1 b2 sc dr := by
  obtain ⟨⟨p0, ⟨r0, r1, r2⟩, hr, h5⟩, k0, k1, k2⟩ := h
  exact ⟨⟨e0.trans p0, ⟨(he _ (by omega) (by omega)).trans r0, (he _ (by omega) (by omega)).trans r1, (he _ (by omega) (by omega)).trans r2⟩, hr, h5⟩, (he _ (by omega) (by omega)).trans k0, (he _ (by omega) (by omega)).trans k1, (he _ (by omega) (by omega)).trans k2⟩
theorem g2_e (h : g2 M A T n i) (he : ∀ q, A + 1 ≤ q → q ≤ A + 2 → M1.2 q = M.2 q) : g2 M1 A T n i := ⟨⟨(he _ (by omega) (by omega)).trans h.1.1, (he _ (by omega) (by omega)).trans h.1.2⟩, h.2⟩
theorem g3_e (h : g3 M A nl nw lc wn ho lawF wrF) (he : ∀ q, A + 9 ≤ q → q ≤ A + 11 → M1.2 q = M.2 q) : g3 M1 A nl nw lc wn ho lawF wrF := ⟨sh_eq h.1 he, h.2⟩
theorem lwo_e {a : Nat} {len top : Int} {st lf kk : Int → Int} (h : lwo M a (a + 1) (a + 2) (a + 3) len top st lf kk) (he : ∀ q, a ≤ q → q ≤ a + 3 → M1.2 q = M.2 q) : lwo M1 a (a + 1) (a + 2) (a + 3) len top st lf kk := ⟨(he _ (by omega) (by omega)).trans h.1, (he _ (by omega) (by omega)).trans h.2.1, (he _ (by omega) (by omega)).trans h.2.2.1, (he _ (by omega) (by omega)).trans h.2.2.2⟩
theorem wr_e {a : Nat} {sg ln pl ss lg : Int → Int} {size lines longest letters : Int} (h : wr_at M a sg ln pl ss lg size lines longest letters) (he : ∀ q, a ≤ q → q ≤ a + 5 → M1.2 q = M.2 q) : wr_at M1 a sg ln pl ss lg size lines longest letters := ⟨(he _ (by omega) (by omega)).trans h.1, (he _ (by omega) (by omega)).trans h.2.1, (he _ (by omega) (by omega)).trans h.2.2.1, (he _ (by omega) (by omega)).trans h.2.2.2.1, (he _ (by omega) (by omega)).trans h.2.2.2.2.1, (he _ (by omega) (by omega)).trans h.2.2.2.2.2⟩
theorem g4_e (h : g4 M A nl) (h1 : M.1 ≤ M1.1) (he : ∀ q, nl ≤ q → q ≤ nl + 3 → M1.2 q = M.2 q) : g4 M1 A nl := by
  obtain ⟨⟨len, top, st, lf, kk, h⟩, h2, h3⟩ := h
  exact ⟨⟨_, _, _, _, _, lwo_e h he⟩, h2, by omega⟩
theorem g5_e (h : g5 M A nw) (h1 : M.1 ≤ M1.1) (he : ∀ q, nw ≤ q → q ≤ nw + 5 → M1.2 q = M.2 q) : g5 M1 A nw := by
  obtain ⟨⟨_, _, _, _, _, _, _, _, _, h⟩, h2, h3⟩ := h
  exact ⟨⟨_, _, _, _, _, _, _, _, _, wr_e h he⟩, h2, by omega⟩
theorem g6_e (h : g6 M A nl lc lawF lad qs) (h1 : M.1 ≤ M1.1) (he : ∀ l q, 0 ≤ l → l < lc → lad l ≤ q → q ≤ lad l + 3 → M1.2 q = M.2 q) : g6 M1 A nl lc lawF lad qs := fun l l0 l1 => by
  obtain ⟨a1, a2, a3, a4, a5⟩ := h l l0 l1
  exact ⟨a1, lx_eq a2 (he l · l0 l1), a3, by omega, a5⟩
theorem g7_e (h : g7 M A nw wn wrF wad sg ln pl ss lg size lines longest letters) (h1 : M.1 ≤ M1.1) (he : ∀ w q, 0 ≤ w → w < wn → wad w ≤ q → q ≤ wad w + 5 → M1.2 q = M.2 q) : g7 M1 A nw wn wrF wad sg ln pl ss lg size lines longest letters := ⟨fun w w0 w1 => by
  obtain ⟨a1, a2, a3⟩ := h.1 w w0 w1
  exact ⟨a1, wr_e a2 (he w · w0 w1), a3⟩, fun w w0 w1 => by have := h.2 w w0 w1; exact ⟨by omega, this.2⟩⟩
theorem g8_e (h : g8 M A c f) (he : ∀ q, (A + 22 ≤ q ∧ q ≤ A + 24) ∨ (A + 28 ≤ q ∧ q ≤ A + 29) → M1.2 q = M.2 q) : g8 M1 A c f := ⟨⟨(he _ (by omega)).trans h.1.1, (he _ (by omega)).trans h.1.2.1, (he _ (by omega)).trans h.1.2.2⟩, (he _ (by omega)).trans h.2.1, (he _ (by omega)).trans h.2.2⟩
theorem g10_e (h : g10 M A c f) (he : ∀ q, A + 32 ≤ q → q ≤ A + 36 → M1.2 q = M.2 q) : g10 M1 A c f := ⟨⟨(he _ (by omega) (by omega)).trans h.1.1, (he _ (by omega) (by omega)).trans h.1.2.1, (he _ (by omega) (by omega)).trans h.1.2.2⟩, (he _ (by omega) (by omega)).trans h.2.1, (he _ (by omega) (by omega)).trans h.2.2⟩
theorem g11_e (h : no_at M (A + 37) nc nle ni nm) (he : ∀ q, A + 37 ≤ q → q ≤ A + 40 → M1.2 q = M.2 q) : no_at M1 (A + 37) nc nle ni nm := ⟨(he _ (by omega) (by omega)).trans h.1, (he _ (by omega) (by omega)).trans h.2.1, (he _ (by omega) (by omega)).trans h.2.2.1, (he _ (by omega) (by omega)).trans h.2.2.2⟩
theorem tm_e (h : tm M A) (he : ∀ q, (A + 25 ≤ q ∧ q ≤ A + 27) ∨ (A + 41 ≤ q ∧ q ≤ A + 48) ∨ (A + 50 ≤ q ∧ q ≤ A + 52) → M1.2 q = M.2 q) : tm M1 A := by
  obtain ⟨⟨_, _, _, _, _, _, a⟩, ⟨_, _, _, _, _, b⟩, ⟨_, _, _, _, c, c2⟩, ⟨_, d⟩, ⟨_, e⟩, _, f⟩ := h
  exact ⟨⟨_, _, _, _, _, _, (he _ (by omega)).trans a.1, (he _ (by omega)).trans a.2.1, (he _ (by omega)).trans a.2.2⟩, ⟨_, _, _, _, _, (he _ (by omega)).trans b.1, (he _ (by omega)).trans b.2.1, (he _ (by omega)).trans b.2.2.1, (he _ (by omega)).trans b.2.2.2.1, (he _ (by omega)).trans b.2.2.2.2⟩, ⟨_, _, _, _, ⟨(he _ (by omega)).trans c.1, (he _ (by omega)).trans c.2.1, (he _ (by omega)).trans c.2.2⟩, c2⟩, ⟨_, (he _ (by omega)).trans d⟩, ⟨_, (he _ (by omega)).trans e⟩, _, (he _ (by omega)).trans f⟩
theorem g14_e (h : g14 g M A bs N scr) (h1 : M.1 ≤ M1.1) (he : ∀ q, q < A ∨ q = A + 84 → M1.2 q = M.2 q) : g14 g M1 A bs N scr := by
  obtain ⟨⟨s1, s2, s3, s4⟩, ⟨c0, c1, d1, d2, d3⟩, hk, ⟨e1, e2⟩, ⟨v, e3⟩, e4⟩ := h
  exact ⟨⟨(he _ (Or.inl (hk 2 (by omega)))).trans s1, (he _ (Or.inl (hk 3 (by omega)))).trans s2, (he _ (Or.inl (hk 4 (by omega)))).trans s3, (he _ (Or.inl (hk 5 (by omega)))).trans s4⟩, ⟨c0, c1, (he _ (Or.inl (hk 0 (by omega)))).trans d1, (he _ (Or.inl (hk 1 (by omega)))).trans d2, d3⟩, hk, ⟨(he _ (Or.inl e2)).trans e1, e2⟩, ⟨v, (he _ (Or.inr rfl)).trans e3⟩, by omega⟩
/-- a reference unchanged, seen from another picture -/
theorem md_e {B : Nat} {S : Nat → Int} {Y : Nat → Int → Int} (h : md M M B S Y) (he : ∀ q, B ≤ q → q ≤ B + 30 → M1.2 q = M.2 q) : md M1 M1 B S Y := ⟨(he _ (by omega) (by omega)).trans h.1, fun k k1 k2 => (he _ (by omega) (by omega)).trans (h.2.1 k k1 k2), rfl, fun _ _ => rfl⟩
theorem md_s {B : Nat} {S : Nat → Int} {Y : Nat → Int → Int} {M0 : sk_M} (h : md M0 M B S Y) : md M M B S Y := ⟨h.1, h.2.1, rfl, fun _ _ => rfl⟩
end JDEF
