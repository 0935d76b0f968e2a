/-! ===== the law's loop ===== -/
section LOOP
variable {g : sk_G} {d : Nat} {Q : sk_P} {A bs N : Nat} {scr : Int → Int}
theorem J_k {k : Int} {M : sk_M} (h : J g A bs N scr k M) (h5 : k < 512) : J g A bs N scr (k + 1) M := by
  obtain ⟨ra, rb, nl, nw, R, H, R2, H2, T, f, f2, nc, nle, ni, rf, b1, b2, hands, h2, sc, dr, n, i, lc, wn, ho, next, kept, has, nm, lawF, wrF, pgs, lad, wad, qs, sg, ln, pl, ss, lg, size, lines, longest, letters, cnt, c, ci, nh, S, Y, hX, ht, hm, hR, h21⟩ := h
  exact ⟨ra, rb, nl, nw, R, H, R2, H2, T, f, f2, nc, nle, ni, rf, b1, b2, hands, h2, sc, dr, n, i, lc, wn, ho, next, kept, has, nm, lawF, wrF, pgs, lad, wad, qs, sg, ln, pl, ss, lg, size, lines, longest, letters, cnt, c, ci, nh, S, Y, hX, ht, hm, JR_k hR h5, h21⟩
theorem sk_swt_all {x : Int} {L : List (Option sk_V)} {r : List sk_V} {M : sk_M} {kd : sk_K} (hd : kd L r M) : ∀ (ks : List sk_K) (lo : Int), (∀ a ∈ ks, a L r M) → sk_swt x lo ks kd L r M
  | [], lo, _ => by simpa [sk_swt] using hd
  | a :: ks, lo, h => by
    unfold sk_swt
    exact ⟨fun _ => h a List.mem_cons_self, fun _ => sk_swt_all hd ks (lo + 1) (fun b hb => h b (List.mem_cons_of_mem _ hb))⟩
theorem l_1655 {ck sk : Nat} {i : Int} {M : sk_M} (hn : sk_B (g, d, ck, sk, xL_law, Q) 23 (lL A bs (i + 6)) [] M) : sk_B (g, d, ck, sk, xL_law, Q) 1655 (lL A bs i) [] M := by
  unfold lL at hn ⊢
  refine tL_law_1655 _ _ _ ?_
  simp only [kL_law_1655, po_iinc, sk_nth, sk_lok, sk_isL, sk_set, Bool.not_false, true_and]
  exact hn
theorem l_1661 {ck sk : Nat} {L : List (Option sk_V)} {M : sk_M} (hQ : Q (some (.inl 1)) M) : sk_B (g, d, ck, sk, xL_law, Q) 1661 L [] M := by
  refine tL_law_1661 _ _ _ ?_
  simp only [kL_law_1661, po_i, po_zret]
  exact ⟨Or.inr trivial, hQ⟩
theorem l_23 {ck sk : Nat} {k : Int} {M : sk_M} (hs : M.2 bs = (30, N, sk_I scr)) (h0 : 0 ≤ k) (h5 : k ≤ 512) (hN : N ≤ 3072) (hx : (N : Int) < 6 * k + 6 → sk_B (g, d, ck, sk, xL_law, Q) 1661 (lL A bs (6 * k)) [] M)
    (hdf : 6 * k + 6 ≤ N → sk_B (g, d, ck, sk, xL_law, Q) 1655 (lL A bs (6 * k)) [] M)
    (hc : 6 * k + 6 ≤ N → ∀ pc ∈ ([216, 289, 314, 339, 364, 389, 457, 506, 555, 580, 605, 666, 703, 728, 753, 822, 847, 860, 897, 922, 947, 996, 1033, 1058, 1095, 1120, 1169, 1218, 1283, 1308, 1321, 1358, 1383, 1444, 1481, 1542, 1579, 1604, 1617, 1630] : List Nat), sk_B (g, d, ck, sk, xL_law, Q) pc (lL A bs (6 * k)) [] M) : sk_B (g, d, ck, sk, xL_law, Q) 23 (lL A bs (6 * k)) [] M := by
  unfold lL at hx hdf hc ⊢
  refine tL_law_23 _ _ _ ?_
  simp (disch := omega) only [kL_law_23, po_iload, po_aload, po_alen, po_i, po_isub, po_icgt, po_iaload, po_iand, po_tsw, sk_nth, hs, lc_30, sk_w_id, sk_I_at, true_and]
  refine ⟨fun z => hx (by omega), fun z => ⟨by omega, by omega, ?_⟩⟩
  have h6 : 6 * k + 6 ≤ N := by omega
  refine sk_swt_all (hdf h6) _ _ (fun a ha => ?_)
  simp only [List.mem_cons, List.not_mem_nil, or_false] at ha
  have hc := hc h6
  rcases ha with rfl | rfl | rfl | rfl | rfl | rfl | rfl | rfl | rfl | rfl | rfl | rfl | rfl | rfl | rfl | rfl | rfl | rfl | rfl | rfl | rfl | rfl | rfl | rfl | rfl | rfl | rfl | rfl | rfl | rfl | rfl | rfl | rfl | rfl | rfl | rfl | rfl | rfl | rfl | rfl
  · exact hc 216 (by simp)
  · exact hc 289 (by simp)
  · exact hc 314 (by simp)
  · exact hc 339 (by simp)
  · exact hc 364 (by simp)
  · exact hc 389 (by simp)
  · exact hc 457 (by simp)
  · exact hc 506 (by simp)
  · exact hc 555 (by simp)
  · exact hc 580 (by simp)
  · exact hc 605 (by simp)
  · exact hc 666 (by simp)
  · exact hc 703 (by simp)
  · exact hc 728 (by simp)
  · exact hc 753 (by simp)
  · exact hc 822 (by simp)
  · exact hc 847 (by simp)
  · exact hc 860 (by simp)
  · exact hc 897 (by simp)
  · exact hc 922 (by simp)
  · exact hc 947 (by simp)
  · exact hc 996 (by simp)
  · exact hc 1033 (by simp)
  · exact hc 1058 (by simp)
  · exact hc 1095 (by simp)
  · exact hc 1120 (by simp)
  · exact hc 1169 (by simp)
  · exact hc 1218 (by simp)
  · exact hc 1283 (by simp)
  · exact hc 1308 (by simp)
  · exact hc 1321 (by simp)
  · exact hc 1358 (by simp)
  · exact hc 1383 (by simp)
  · exact hc 1444 (by simp)
  · exact hc 1481 (by simp)
  · exact hc 1542 (by simp)
  · exact hc 1579 (by simp)
  · exact hc 1604 (by simp)
  · exact hc 1617 (by simp)
  · exact hc 1630 (by simp)
/-- the law's loop comes to its end with true -/
theorem l_loop (hd : 127 ≤ d) (hN : N ≤ 3072) (hi : ∀ j, i32 (scr j)) (hQ : ∀ M, Q (some (.inl 1)) M)
    (hhand : ∀ (ck sk : Nat) (k : Int) (M : sk_M), 90 ≤ ck → 8580 ≤ sk → J g A bs N scr k M → k < 512 → 0 ≤ k → 6 * k + 6 ≤ N → (∀ M2, J g A bs N scr (k + 1) M2 → sk_B (g, d, ck - 90, sk - 8580, xL_law, Q) 1655 (lL A bs (6 * k)) [] M2) → sk_B (g, d, ck, sk, xL_law, Q) 389 (lL A bs (6 * k)) [] M) :
    ∀ (n ck sk : Nat) (k : Int) (M : sk_M), k + n = 512 → 0 ≤ k → 90 * n ≤ ck → 8580 * n ≤ sk → J g A bs N scr k M → sk_B (g, d, ck, sk, xL_law, Q) 23 (lL A bs (6 * k)) [] M := by
  intro n
  induction n with
  | zero =>
    intro ck sk k M hk h0 hc hs hJ
    exact l_23 (j_see hJ).1 h0 (by omega) hN (fun _ => l_1661 (hQ M)) (fun z => by omega) (fun z => by omega)
  | succ n ih =>
    intro ck sk k M hk h0 hc hs hJ
    have h5 : k < 512 := by omega
    have hd' : 126 ≤ d := by omega
    have c1 : 90 ≤ ck := by omega
    have c2 : 8580 ≤ sk := by omega
    refine l_23 (j_see hJ).1 h0 (by omega) hN (fun _ => l_1661 (hQ M)) (fun z => ?_) (fun z pc hpc => ?_)
    · refine l_1655 ?_
      have := ih ck sk (k + 1) M (by omega) (by omega) (by omega) (by omega) (J_k hJ h5)
      rwa [show 6 * (k + 1) = 6 * k + 6 by omega] at this
    · have hn : ∀ M2, J g A bs N scr (k + 1) M2 → sk_B (g, d, ck - 90, sk - 8580, xL_law, Q) 1655 (lL A bs (6 * k)) [] M2 := by
        intro M2 h2
        refine l_1655 ?_
        have := ih (ck - 90) (sk - 8580) (k + 1) M2 (by omega) (by omega) (by omega) (by omega) h2
        rwa [show 6 * (k + 1) = 6 * k + 6 by omega] at this
      simp only [List.mem_cons, List.not_mem_nil, or_false] at hpc
      rcases hpc with rfl | rfl | rfl | rfl | rfl | rfl | rfl | rfl | rfl | rfl | rfl | rfl | rfl | rfl | rfl | rfl | rfl | rfl | rfl | rfl | rfl | rfl | rfl | rfl | rfl | rfl | rfl | rfl | rfl | rfl | rfl | rfl | rfl | rfl | rfl | rfl | rfl | rfl | rfl | rfl
      · exact lc_feed hd' c1 c2 hJ h5 h0 z hi hn
      · exact lc_end hd' c1 c2 hJ h5 h0 z hi hn
      · exact lc_fault hd' c1 c2 hJ h5 h0 z hi hn
      · exact lc_text hd' c1 c2 hJ h5 h0 z hi hn
      · exact lc_rule hd' c1 c2 hJ h5 h0 z hi hn
      · exact hhand ck sk k M c1 c2 hJ h5 h0 z hn
      · exact lc_sign hd' c1 c2 hJ h5 h0 z hi hn
      · exact lc_layer hd' c1 c2 hJ h5 h0 z hi hn
      · exact lc_law hd' c1 c2 hJ h5 h0 z hi hn
      · exact lc_scribes hd' c1 c2 hJ h5 h0 z hi hn
      · exact lc_write hd' c1 c2 hJ h5 h0 z hi hn
      · exact lc_scrape hd' c1 c2 hJ h5 h0 z hi hn
      · exact lc_ages hd' c1 c2 hJ h5 h0 z hi hn
      · exact lc_give hd' c1 c2 hJ h5 h0 z hi hn
      · exact lc_years hd' c1 c2 hJ h5 h0 z hi hn
      · exact lc_status hd' c1 c2 hJ h5 h0 z hi hn
      · exact lc_undo hd' c1 c2 hJ h5 h0 z hi hn
      · exact lc_log hd' c1 c2 hJ h5 h0 z hi hn
      · exact lc_shows hd' c1 c2 hJ h5 h0 z hi hn
      · exact lc_lamp hd' c1 c2 hJ h5 h0 z hi hn
      · exact lc_agrees hd' c1 c2 hJ h5 h0 z hi hn
      · exact lc_may hd' c1 c2 hJ h5 h0 z hi hn
      · exact lc_best hd' c1 c2 hJ h5 h0 z hi hn
      · exact lc_over hd' c1 c2 hJ h5 h0 z hi hn
      · exact lc_order hd' c1 c2 hJ h5 h0 z hi hn
      · exact lc_lost hd' c1 c2 hJ h5 h0 z hi hn
      · exact lc_faded hd' c1 c2 hJ h5 h0 z hi hn
      · exact lc_noted hd' c1 c2 hJ h5 h0 z hi hn
      · exact lc_fits hd' c1 c2 hJ h5 h0 z hi hn
      · exact lc_ask hd' c1 c2 hJ h5 h0 z hi hn
      · exact lc_meets hd' c1 c2 hJ h5 h0 z hi hn
      · exact lc_quire hd' c1 c2 hJ h5 h0 z hi hn
      · exact lc_game hd' c1 c2 hJ h5 h0 z hi hn
      · exact lc_rests hd' c1 c2 hJ h5 h0 z hi hn
      · exact lc_odds hd' c1 c2 hJ h5 h0 z hi hn
      · exact lc_shares hd' c1 c2 hJ h5 h0 z hi hn
      · exact lc_most hd' c1 c2 hJ h5 h0 z hi hn
      · exact lc_image hd' c1 c2 hJ h5 h0 z hi hn
      · exact lc_back hd' c1 c2 hJ h5 h0 z hi hn
      · exact lc_count hd' c1 c2 hJ h5 h0 z hi hn
end LOOP
