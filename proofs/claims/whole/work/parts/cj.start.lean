/-! ===== the state before the first call ===== -/
section START
variable {g : sk_G} {M : sk_M} {A bs N : Nat} {scr : Int → Int}
theorem J_start (hx : M.2 A = (11, 0, xF A (A + 3) (A + 6) 4 0)) (E : ∀ k, 1 ≤ k → k < 53 → M.2 (A + k) = x0 A k) (hm : md M M (A + 53) mS0 (fun _ _ => 0)) (hout : M.2 (A + 84) = (22, 1, fun _ => .inr (.inl 0))) (hn : A + 85 ≤ M.1) (h1 : st_at g M) (h2 : sbd_at g M) (h3 : ∀ k, k < 6 → g.2.2.2.2 k < A) (h4 : M.2 bs = (30, N, sk_I scr)) (h5 : bs < A) : J g A bs N scr 0 M := by
  have z0 : ∀ P : Prop, ∀ l : Int, 0 ≤ l → l < 0 → P := fun P l a b => by omega
  refine ⟨(A + 3), (A + 6), (A + 12), (A + 16), (fun _ => 0), (fun _ => 0), (fun _ => 0), (fun _ => 0), (fun _ => 0), (fun _ => 0), (fun _ => 0), (fun _ => 0), (fun _ => 0), (fun _ => 0), (fun _ => 0), (false), (false), (0), (0), (4), (0), (0), (0), (0), (0), (-1), (0), (0), (0), (0), (fun _ => none), (fun _ => none), (fun _ => none), (fun _ => 0), (fun _ => 0), (fun _ => []), (fun _ _ => 0), (fun _ _ => 0), (fun _ _ => 0), (fun _ _ => 0), (fun _ _ => 0), (fun _ => 0), (fun _ => 0), (fun _ => 0), (fun _ => 0), (fun _ => (fun _ => 0, fun _ => 0, 0, 0, 0, 0)), ((fun _ => 0, fun _ => 0, 0, 0, 0, 0)), ((fun _ => 0, fun _ => 0, 0, 0, 0, 0)), (1), (mS0), (fun _ _ => 0), ?_, ?_, hm, ?_, ?_⟩
  · refine ⟨⟨⟨hx, ⟨E 3 (by decide) (by decide), E 4 (by decide) (by decide), E 5 (by decide) (by decide)⟩, Or.inl ⟨rfl, rfl⟩, Or.inl ⟨rfl, rfl⟩, ⟨Int.le_refl 0, show (0 : Int) < 100 by decide⟩, ⟨Int.le_refl 0, by decide⟩⟩, E 6 (by decide) (by decide), E 7 (by decide) (by decide), E 8 (by decide) (by decide)⟩,
      ⟨⟨E 1 (by decide) (by decide), E 2 (by decide) (by decide)⟩, by decide, by decide, fun j a b => z0 _ j a b⟩,
      ⟨⟨E 9 (by decide) (by decide), E 10 (by decide) (by decide), E 11 (by decide) (by decide)⟩, by decide, by decide, Or.inl (by decide)⟩,
      ⟨⟨0, 0, _, _, _, E 12 (by decide) (by decide), E 13 (by decide) (by decide), E 14 (by decide) (by decide), E 15 (by decide) (by decide)⟩, ?_, ?_⟩,
      ⟨⟨_, _, _, _, _, 0, 0, 0, 0, E 16 (by decide) (by decide), E 17 (by decide) (by decide), E 18 (by decide) (by decide), E 19 (by decide) (by decide), E 20 (by decide) (by decide), E 21 (by decide) (by decide)⟩, Or.inl rfl, ?_⟩,
      fun l a b => z0 _ l a b, ⟨fun l a b => z0 _ l a b, fun l a b => z0 _ l a b⟩,
      ⟨⟨E 22 (by decide) (by decide), E 23 (by decide) (by decide), E 24 (by decide) (by decide)⟩, E 28 (by decide) (by decide), E 29 (by decide) (by decide)⟩,
      ⟨⟨E 30 (by decide) (by decide), E 31 (by decide) (by decide)⟩, by decide, (fun j b _ _ h => by cases h), (fun i j b _ _ _ _ h => by cases h), fun l a b => z0 _ l a b⟩,
      ⟨⟨E 32 (by decide) (by decide), E 33 (by decide) (by decide), E 34 (by decide) (by decide)⟩, E 35 (by decide) (by decide), E 36 (by decide) (by decide)⟩,
      ⟨E 37 (by decide) (by decide), E 38 (by decide) (by decide), E 39 (by decide) (by decide), E 40 (by decide) (by decide)⟩,
      E 49 (by decide) (by decide), ⟨h1, h2, h3, ⟨h4, h5⟩, ⟨0, hout⟩, hn⟩⟩
    · unfold lhA; omega
    · omega
    · omega
  · exact ⟨⟨_, _, 0, 0, 0, 0, E 25 (by decide) (by decide), E 26 (by decide) (by decide), E 27 (by decide) (by decide)⟩, ⟨_, _, _, _, 0, E 41 (by decide) (by decide), E 42 (by decide) (by decide), E 43 (by decide) (by decide), E 44 (by decide) (by decide), E 45 (by decide) (by decide)⟩, ⟨_, _, 0, 0, ⟨E 46 (by decide) (by decide), E 47 (by decide) (by decide), E 48 (by decide) (by decide)⟩, fun j _ _ => ⟨show (-10000 : Int) ≤ 0 by decide, show (0 : Int) ≤ 10000 by decide⟩⟩, ⟨_, E 50 (by decide) (by decide)⟩, ⟨_, E 51 (by decide) (by decide)⟩, ⟨_, E 52 (by decide) (by decide)⟩⟩
  · have hpo : pg_ok (fun _ => 0) (fun _ => 0) := ⟨fun j _ _ => ⟨Int.le_refl 0, show (0 : Int) < 2048 by decide⟩, fun j _ _ => ⟨Int.le_refl 0, show (0 : Int) ≤ 6 by decide⟩⟩
    have hsn : sn (0 * 0) 0 1 (fun _ => 0) (fun _ => 0, fun _ => 0, 0, 0, 0, 0) (fun _ => 0) := by
      refine ⟨⟨fun c _ _ => ?_, fun c _ _ => rfl⟩, (fun a b a0 a1 => z0 _ a a0 a1), ⟨rfl, rfl, rfl⟩, ⟨⟨fun c _ _ => ⟨Int.le_refl 0, show (0 : Int) ≤ 6 by decide⟩, fun j _ _ => ⟨Int.le_refl 0, show (0 : Int) < 100 by decide⟩⟩, fun k _ _ => ⟨⟨Int.le_refl 0, show (0 : Int) < 26 by decide⟩, ⟨Int.le_refl 0, show (0 : Int) < 1 by decide⟩, Int.le_refl 0, show (0 : Int) ≤ 9 by decide⟩, Int.le_refl 0, show (0 : Int) ≤ 999 by decide, Int.le_refl 0, show (0 : Int) ≤ 60 by decide⟩, ⟨Int.le_refl 0, show (0 : Int) ≤ 999 by decide⟩, Int.le_refl 0, hpo⟩
      exact ⟨rfl, Int.le_refl 0, show (0 : Int) ≤ 6 by decide, fun i a b => z0 _ i a b⟩
    refine ⟨⟨⟨rfl, rfl, rfl⟩, Or.inl ⟨rfl, rfl⟩, rfl, rfl, by decide, fun l a b => z0 _ l a b⟩, ⟨⟨rfl, fun l a b => z0 _ l a b⟩, by decide, by decide, fun l a b => z0 _ l a b⟩, hsn, ⟨⟨fun l a b => z0 _ l a b, (fun s t a b c => by omega)⟩, rfl⟩, ⟨rfl, (fun h => absurd h (by decide))⟩, ⟨fun j _ _ => ⟨rfl, Int.le_refl 0, Int.le_refl 0⟩, by decide, by decide, by decide⟩, ⟨⟨rfl, by decide, by decide⟩, rfl, rfl, rfl, rfl, fun j _ => rfl⟩, ⟨fun _ => ⟨rfl, rfl⟩, (fun h => absurd h (by decide)), (fun j a b => by omega), fun j a b => z0 _ j a b, by decide, fun j _ _ => ⟨Int.le_refl 0, show (0 : Int) ≤ 9 by decide⟩⟩, fun l a b => z0 _ l a b⟩
  · exact fun i _ _ => ⟨Int.le_refl 0, show (0 : Int) < 6 by decide⟩
end START
