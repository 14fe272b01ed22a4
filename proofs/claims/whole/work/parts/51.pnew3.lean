/-- a State made at s -/
theorem st_new {σ : Sh} {X : Mx} {s : Nat} (hK : shK σ s = 4) : ∃ σ1 X1, f_X5_init σ X (s + 1) s = some ((), σ1, X1, 16, 937) ∧ stOK σ1 s (s + 5) (s + 9) ∧ NwF σ σ1 X X1 s (s + 16) ∧ X1.1 s = X.1 s ∧
    (∀ t, (t = s + 1 ∨ t = s + 5 ∨ t = s + 9) → X1.1 t 0 = nI 0 ∧ X1.1 t 1 = nI 0 ∧ ∀ j, j < 180 → X1.1 (t + 3) j = nI 9999) ∧ (∀ j, j < 316 → X1.1 (s + 16) j = -(nI 1)) := by
  obtain ⟨σ1, X1, e1, o1, r1, k1, x1, l1, z10, z11, z13⟩ := tab_put (σ := σ) (X := X) (s := s) (t := s + 1) (f := 0) (ci := 4) hK (by omega)
  have K1 : shK σ1 s = 4 := (k1 s (by omega)).1.trans hK
  obtain ⟨σ2, X2, e2, o2, r2, k2, x2, l2, z20, z21, z23⟩ := tab_put (σ := σ1) (X := X1) (s := s) (t := s + 1 + 1 + 3) (f := 1) (ci := 4) K1 (by omega)
  have K2 : shK σ2 s = 4 := (k2 s (by omega)).1.trans K1
  obtain ⟨σ3, X3, e3, o3, r3, k3, x3, l3, z30, z31, z33⟩ := tab_put (σ := σ2) (X := X2) (s := s) (t := s + 1 + 1 + 3 + 1 + 3) (f := 2) (ci := 4) K2 (by omega)
  have K3 : shK σ3 s = 4 := (k3 s (by omega)).1.trans K2
  obtain ⟨σ4, X4, e4, q4, n4, r4, k4, x4, l4, z4⟩ := arr_put (σ := σ3) (X := X3) (s := s) (t := s + 1 + 1 + 3 + 1 + 3 + 1 + 3) (f := 6) (ci := 4) (n := 4) (by omega) K3 (by omega)
  have K4 : shK σ4 s = 4 := (k4 s (by omega)).1.trans K3
  obtain ⟨σ5, X5, e5, q5, n5, r5, k5, x5, l5, z5⟩ := arr_put (σ := σ4) (X := X4) (s := s) (t := s + 1 + 1 + 3 + 1 + 3 + 1 + 3 + 1) (f := 7) (ci := 4) (n := 4) (by omega) K4 (by omega)
  have K5 : shK σ5 s = 4 := (k5 s (by omega)).1.trans K4
  obtain ⟨σ6, X6, e6, q6, n6, r6, k6, x6, l6, z6⟩ := arr_put (σ := σ5) (X := X5) (s := s) (t := s + 1 + 1 + 3 + 1 + 3 + 1 + 3 + 1 + 1) (f := 8) (ci := 4) (n := 4) (by omega) K5 (by omega)
  have K6 : shK σ6 s = 4 := (k6 s (by omega)).1.trans K5
  obtain ⟨σ7, X7, e7, q7, n7, r7, k7, x7, l7, z7⟩ := arr_put (σ := σ6) (X := X6) (s := s) (t := s + 1 + 1 + 3 + 1 + 3 + 1 + 3 + 1 + 1 + 1) (f := 9) (ci := 4) (n := 316) (by omega) K6 (by omega)
  have K7 : shK σ7 s = 4 := (k7 s (by omega)).1.trans K6
  have hf := s_fill (σ := σ7) (X := X7) (v := -(nI 1)) q7 (by rw [n7]; omega)
  -- the shape behind all
  have R : ∀ q, (q < s + 1 ∨ s + 16 < q) → shK σ7 q = shK σ q ∧ shN σ7 q = shN σ q ∧ (q ≠ s → ∀ j, shR σ7 q j = shR σ q j) := by
    intro q hq
    obtain ⟨a1, b1, c1⟩ := k1 q (by omega)
    obtain ⟨a2, b2, c2⟩ := k2 q (by omega)
    obtain ⟨a3, b3, c3⟩ := k3 q (by omega)
    obtain ⟨a4, b4, c4⟩ := k4 q (by omega)
    obtain ⟨a5, b5, c5⟩ := k5 q (by omega)
    obtain ⟨a6, b6, c6⟩ := k6 q (by omega)
    obtain ⟨a7, b7, c7⟩ := k7 q (by omega)
    exact ⟨by rw [a7, a6, a5, a4, a3, a2, a1], by rw [b7, b6, b5, b4, b3, b2, b1], fun hs j => by rw [c7 j (by omega), c6 j (by omega), c5 j (by omega), c4 j (by omega), c3 j (by omega), c2 j (by omega), c1 j (by omega)]⟩
  have E3 : ∀ q, s < q → q < s + 13 → shK σ7 q = shK σ3 q ∧ shN σ7 q = shN σ3 q ∧ ∀ j, shR σ7 q j = shR σ3 q j := by
    intro q h1 h2
    obtain ⟨a4, b4, c4⟩ := k4 q (by omega)
    obtain ⟨a5, b5, c5⟩ := k5 q (by omega)
    obtain ⟨a6, b6, c6⟩ := k6 q (by omega)
    obtain ⟨a7, b7, c7⟩ := k7 q (by omega)
    exact ⟨by rw [a7, a6, a5, a4], by rw [b7, b6, b5, b4], fun j => by rw [c7 j (by omega), c6 j (by omega), c5 j (by omega), c4 j (by omega)]⟩
  have T3 : tabOK σ7 (s + 9) := (show tabOK σ3 (s + 9) from o3).ext (fun q h1 h2 => E3 q (by omega) (by omega))
  have E2 : ∀ q, s < q → q < s + 9 → shK σ7 q = shK σ2 q ∧ shN σ7 q = shN σ2 q ∧ ∀ j, shR σ7 q j = shR σ2 q j := by
    intro q h1 h2
    obtain ⟨a1, b1, c1⟩ := E3 q (by omega) (by omega)
    obtain ⟨a3, b3, c3⟩ := k3 q (by omega)
    exact ⟨a1.trans a3, b1.trans b3, fun j => (c1 j).trans (c3 j (by omega))⟩
  have T2 : tabOK σ7 (s + 5) := (show tabOK σ2 (s + 5) from o2).ext (fun q h1 h2 => E2 q (by omega) (by omega))
  have T1 : tabOK σ7 (s + 1) := o1.ext (fun q h1 h2 => by
    obtain ⟨a1, b1, c1⟩ := E2 q (by omega) (by omega)
    obtain ⟨a3, b3, c3⟩ := k2 q (by omega)
    exact ⟨a1.trans a3, b1.trans b3, fun j => (c1 j).trans (c3 j (by omega))⟩)
  have S : ∀ j, (j ≠ 9 → shR σ7 s j = shR σ6 s j) ∧ (j ≠ 8 → shR σ6 s j = shR σ5 s j) ∧ (j ≠ 7 → shR σ5 s j = shR σ4 s j) ∧ (j ≠ 6 → shR σ4 s j = shR σ3 s j) ∧ (j ≠ 2 → shR σ3 s j = shR σ2 s j) ∧ (j ≠ 1 → shR σ2 s j = shR σ1 s j) := fun j => ⟨fun h => (k7 s (by omega)).2.2 j (by omega), fun h => (k6 s (by omega)).2.2 j (by omega), fun h => (k5 s (by omega)).2.2 j (by omega), fun h => (k4 s (by omega)).2.2 j (by omega), fun h => (k3 s (by omega)).2.2 j (by omega), fun h => (k2 s (by omega)).2.2 j (by omega)⟩
  refine ⟨σ7, wF X7 (s + 16) (fun j => if j < shN σ7 (s + 16) then -(nI 1) else X7.1 (s + 16) j), ?_, ⟨K7, ?_, ?_, ?_, ?_, ?_, ?_, r7, T1, T2, T3, ?_, ?_, ?_, ?_, ?_, ?_, ⟨q7, n7⟩, Or.inl ⟨rfl, rfl⟩⟩, ⟨fun q hq => ?_, fun q hq => ?_, fun q => ?_⟩, ?_, fun t ht => ?_, fun j hj => ?_⟩
  · unfold f_X5_init
    rw [grd_t hK]
    simp only [litM]
    rw [e1, e2, e3, e4, e5, e6, e7]
    simp only [ldR, K7, r7, if_true, Option.bind_some]
    rw [hf]
    rfl
  · rw [(S 0).1 (by omega), (S 0).2.1 (by omega), (S 0).2.2.1 (by omega), (S 0).2.2.2.1 (by omega), (S 0).2.2.2.2.1 (by omega), (S 0).2.2.2.2.2 (by omega)]; exact r1
  · rw [(S 1).1 (by omega), (S 1).2.1 (by omega), (S 1).2.2.1 (by omega), (S 1).2.2.2.1 (by omega), (S 1).2.2.2.2.1 (by omega)]; exact r2
  · rw [(S 2).1 (by omega), (S 2).2.1 (by omega), (S 2).2.2.1 (by omega), (S 2).2.2.2.1 (by omega)]; exact r3
  · rw [(S 6).1 (by omega), (S 6).2.1 (by omega), (S 6).2.2.1 (by omega)]; exact r4
  · rw [(S 7).1 (by omega), (S 7).2.1 (by omega)]; exact r5
  · rw [(S 8).1 (by omega)]; exact r6
  · rw [(k7 _ (by omega)).1, (k6 _ (by omega)).1, (k5 _ (by omega)).1]; exact q4
  · rw [(k7 _ (by omega)).2.1, (k6 _ (by omega)).2.1, (k5 _ (by omega)).2.1]; exact n4
  · rw [(k7 _ (by omega)).1, (k6 _ (by omega)).1]; exact q5
  · rw [(k7 _ (by omega)).2.1, (k6 _ (by omega)).2.1]; exact n5
  · rw [(k7 _ (by omega)).1]; exact q6
  · rw [(k7 _ (by omega)).2.1]; exact n6
  · obtain ⟨a1, b1, c1⟩ := R q (by omega)
    exact ⟨a1, b1, c1 (by omega)⟩
  · rw [wF_fn (by omega), x7 q (by omega), x6 q (by omega), x5 q (by omega), x4 q (by omega), x3 q (by omega), x2 q (by omega), x1 q (by omega)]
  · rw [l7, l6, l5, l4, l3, l2, l1]
    by_cases hq : q ∈ shL σ
    · simp [hq]
    · simp only [hq, false_or]; omega
  · rw [wF_fn (by omega), x7 s (by omega), x6 s (by omega), x5 s (by omega), x4 s (by omega), x3 s (by omega), x2 s (by omega), x1 s (by omega)]
  · have w : ∀ q, s < q → q < s + 13 → (wF X7 (s + 16) (fun j => if j < shN σ7 (s + 16) then -(nI 1) else X7.1 (s + 16) j)).1 q = X3.1 q := fun q h1 h2 => by rw [wF_fn (by omega), x7 q (by omega), x6 q (by omega), x5 q (by omega), x4 q (by omega)]
    rcases ht with rfl | rfl | rfl
    · rw [w (s + 1) (by omega) (by omega), w (s + 1 + 3) (by omega) (by omega), x3 (s + 1) (by omega), x2 (s + 1) (by omega), x3 (s + 1 + 3) (by omega), x2 (s + 1 + 3) (by omega)]
      exact ⟨z10, z11, z13⟩
    · rw [w (s + 5) (by omega) (by omega), w (s + 5 + 3) (by omega) (by omega), x3 (s + 5) (by omega), x3 (s + 5 + 3) (by omega)]
      exact ⟨z20, z21, z23⟩
    · rw [w (s + 9) (by omega) (by omega), w (s + 9 + 3) (by omega) (by omega)]
      exact ⟨z30, z31, z33⟩
  · rw [wF_at, show shN σ7 (s + 16) = 316 from n7, if_pos hj]
