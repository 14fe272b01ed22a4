/-- both sides of a State changed about -/
theorem StR.flip {X X1 : Nat → Nat → Int32} {s L R : Nat} {W W1 : Nat → Int32} (h : StR X s L R W 0) (lr : (L = s + 5 ∧ R = s + 9) ∨ (L = s + 9 ∧ R = s + 5))
    (ht : ∀ t, t = L ∨ t = R → X1 t 0 = ren (X t 0) ∧ X1 t 1 = X t 1 ∧ (∀ c, c < 9 → X1 (t + 1) c = X (t + 1) (flp c)) ∧ (∀ c, c < 9 → X1 (t + 2) c = X (t + 2) (flp c)) ∧ (∀ k c, k < 20 → c < 9 → X1 (t + 3) (9 * k + c) = X (t + 3) (9 * k + flp c)))
    (hx : ∀ q, (s < q ∧ q < s + 5) ∨ (s + 13 ≤ q ∧ q < s + 16) → X1 q = X q) (h3 : X1 s 3 = X s 4) (h4 : X1 s 4 = X s 3) (h5 : X1 s 5 = X s 5)
    (hw : ∀ o o1, (o = 0 ∧ o1 = 200) ∨ (o = 200 ∧ o1 = 0) → (∀ d, bt (W1 o1) d = (decide (d < 9) && bt (W o) (flp d))) ∧ W1 (o1 + 1) = W (o + 1) ∧ (∀ c, c < 9 → W1 (o1 + 2 + c) = W (o + 2 + flp c) ∧ W1 (o1 + 11 + c) = W (o + 11 + flp c) ∧ ∀ k, k < 20 → W1 (o1 + 20 + 9 * k + c) = W (o + 20 + 9 * k + flp c)))
    (hw2 : ∀ j, 400 ≤ j → j < 613 → W1 j = W j) (w3 : W1 613 = W 614) (w4 : W1 614 = W 613) (hc : ∀ i, i < 316 → X1 (s + 16) i = W1 (615 + i) ∧ chOI i (X1 (s + 16) i)) : StR X1 s R L W1 0 := by
  obtain ⟨tL, tR, tB, lB, lL, lR, ⟨d, d1, d2, d3, d4⟩, ⟨p, p1, p2, p3, p4⟩, ⟨q, q1, q2, q3, q4⟩, cs⟩ := h
  obtain ⟨l0, l1, l2, l3, l4⟩ := ht L (Or.inl rfl)
  obtain ⟨r0, r1, r2, r3, r4⟩ := ht R (Or.inr rfl)
  obtain ⟨a0, a1, a2⟩ := hw 0 200 (Or.inl ⟨rfl, rfl⟩)
  obtain ⟨b0, b1, b2⟩ := hw 200 0 (Or.inr ⟨rfl, rfl⟩)
  have lowL := tL.2.2.1
  have lowR := tR.2.2.1
  have bL : ∀ c, c < 9 → bt (X1 L 0) c = bt (X L 0) (flp c) := fun c hc => by rw [l0, ren_bt lowL, decide_eq_true hc, Bool.true_and]
  have bR : ∀ c, c < 9 → bt (X1 R 0) c = bt (X R 0) (flp c) := fun c hc => by rw [r0, ren_bt lowR, decide_eq_true hc, Bool.true_and]
  refine ⟨TabR.flip (o1 := 0) (o := 200) tR r0 r1 r2 r3 r4 b0 b1 b2, TabR.flip (o1 := 200) (o := 0) tL l0 l1 l2 l3 l4 a0 a1 a2, tB.fr (fun q h1 h2 => hx q (by omega)) (fun j h1 h2 => hw2 j (by omega) (by omega)), by rw [hx (s + 1) (by omega)]; exact lB, ⟨by rw [bR 7 (by omega)]; exact lR.1, by rw [bR 8 (by omega)]; exact lR.2⟩, ⟨by rw [bL 5 (by omega)]; exact lL.1, by rw [bL 6 (by omega)]; exact lL.2⟩, ⟨d, d1, h5.trans d2, (hw2 _ (by omega) (by omega)).trans d3, fun i hi => ?_⟩, ⟨q, q1, h3.trans q2, w3.trans q3, fun j j1 j2 => ?_⟩, ⟨p, p1, h4.trans p2, w4.trans p3, fun j j1 j2 => ?_⟩, fun i hi => by rw [Nat.zero_add]; exact hc i hi⟩
  · rw [hx (s + 13) (by omega), hx (s + 14) (by omega), hx (s + 15) (by omega), hw2 (0 + 601 + i) (by omega) (by omega), hw2 (0 + 605 + i) (by omega) (by omega), hw2 (0 + 609 + i) (by omega) (by omega)]
    exact d4 i hi
  · rw [bR (5 + j) (by omega), show flp (5 + j) = 7 + j by unfold flp; rw [if_neg (by omega), if_pos (by omega)]; omega]
    exact q4 j j1 j2
  · rw [bL (7 + j) (by omega), show flp (7 + j) = 5 + j by unfold flp; rw [if_neg (by omega), if_neg (by omega), if_pos (by omega)]; omega]
    exact p4 j j1 j2
