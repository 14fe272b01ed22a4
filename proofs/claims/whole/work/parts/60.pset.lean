/-! ===== choices changed ===== -/
theorem StR.chs {X X1 : Nat → Nat → Int32} {s L R : Nat} {W W1 : Nat → Int32} (h : StR X s L R W 0) (lr : (L = s + 5 ∧ R = s + 9) ∨ (L = s + 9 ∧ R = s + 5)) (hX : ∀ q, s ≤ q → q < s + 16 → X1 q = X q) (hW : ∀ j, j < 615 → W1 j = W j) (hc : ∀ i, i < 316 → X1 (s + 16) i = W1 (615 + i) ∧ chOI i (X1 (s + 16) i)) : StR X1 s L R W1 0 := by
  obtain ⟨tL, tR, tB, lB, lL, lR, ⟨d, d1, d2, d3, d4⟩, ⟨p, p1, p2, p3, p4⟩, ⟨q, q1, q2, q3, q4⟩, cs⟩ := h
  unfold StR
  rw [hX (s + 1) (by omega) (by omega), hX L (by omega) (by omega), hX R (by omega) (by omega), hX s (by omega) (by omega), hX (s + 13) (by omega) (by omega), hX (s + 14) (by omega) (by omega), hX (s + 15) (by omega) (by omega), hW (0 + 600) (by omega), hW (0 + 613) (by omega), hW (0 + 614) (by omega)]
  refine ⟨tL.fr (fun q h1 h2 => hX q (by omega) (by omega)) (fun j h1 h2 => hW j (by omega)), tR.fr (fun q h1 h2 => hX q (by omega) (by omega)) (fun j h1 h2 => hW j (by omega)), tB.fr (fun q h1 h2 => hX q (by omega) (by omega)) (fun j h1 h2 => hW j (by omega)), lB, lL, lR, ⟨d, d1, d2, d3, fun i hi => ?_⟩, ⟨p, p1, p2, p3, p4⟩, ⟨q, q1, q2, q3, q4⟩, fun i hi => by rw [Nat.zero_add]; exact hc i hi⟩
  rw [hW (0 + 601 + i) (by omega), hW (0 + 605 + i) (by omega), hW (0 + 609 + i) (by omega)]
  exact d4 i hi
/-- a choice changed by both, as an act -/
theorem choice_both {σ : Sh} {X : Mx} {a L R z ix : Nat} {v : Int32} (h : IV σ X a L R) (hz : ∀ q ∈ shL σ, q < z) (hid : ix < 316) (hv : chOI ix v) :
    ∃ σ1 Xp c d X3, f_X0_prepare σ X z (a + 47) (a + 1) = some ((), σ1, Xp, c, d) ∧ c + 17 * pot σ1 a ≤ 17 * pot σ a ∧ d + 947 * pot σ1 a ≤ 947 * pot σ a ∧ IVs σ1 a L R ∧ (∀ q, q ≤ a + 126 → Xp.1 q = X.1 q) ∧ f_X9_keepAct σ1 (sI Xp (a + 17) ix v) a = some X3 ∧ (∀ q, a + 108 ≤ q → q ≤ a + 126 → X3.1 q = X.1 q) ∧ X3.1 a 10 = nI 0 ∧ StR X3.1 (a + 1) L R (fun j => if j = 615 + ix then v else X.1 (a + 111) j) 0 ∧
      ∀ Y : Mx, (∀ q, (a + 109 ≤ q ∧ q ≤ a + 110) ∨ q = a + 112 ∨ (a + 122 ≤ q ∧ q ≤ a + 125) → Y.1 q = X.1 q) → (∀ j, (j = 2 ∨ j = 4 ∨ j = 19 ∨ j = 32 ∨ j = 35 ∨ j = 36 ∨ j = 37) → Y.1 (a + 108) j = X.1 (a + 108) j) → (∀ j, j < 931 → Y.1 (a + 111) j = X.1 (a + 111) j) → ∃ Y2, f_X10_keeps σ1 Y (a + 108) = some Y2 ∧ Y2.2 = Y.2 ∧ (∀ q, q ≠ a + 108 → q ≠ a + 112 → Y2.1 q = Y.1 q) ∧ (∀ j, j ≠ 19 → Y2.1 (a + 108) j = Y.1 (a + 108) j) ∧
        ∀ Z : Mx, (∀ q, (q < a ∨ (a < q ∧ q < a + 18) ∨ (a + 27 < q ∧ q < a + 53) ∨ q = a + 81 ∨ (a + 83 < q ∧ q < a + 108) ∨ a + 126 < q) → Z.1 q = X3.1 q) → (∀ j, j ≠ 10 → Z.1 a j = X3.1 a j) → (∀ q, (a + 109 ≤ q ∧ q ≤ a + 110) ∨ q = a + 112 ∨ (a + 122 ≤ q ∧ q ≤ a + 125) → Z.1 q = Y2.1 q) → (∀ j, (j = 2 ∨ j = 4 ∨ j = 19 ∨ j = 32 ∨ j = 35 ∨ j = 36 ∨ j = 37) → Z.1 (a + 108) j = Y2.1 (a + 108) j) → (∀ j, j < 931 → Z.1 (a + 111) j = if j = 615 + ix then v else X.1 (a + 111) j) → IVm Z.1 a L R → IV σ1 Z a L R := by
  obtain ⟨σ1, Xp, c, d, ep, hI, ⟨k, f, s, hk, hf, p2, p1, pr, pS⟩, b1, b2, hXp⟩ := prepare h hz
  obtain ⟨hs, hc, hm, hq⟩ := id hI
  have hD := hs.md
  have lr := hs.2.1.lr
  obtain ⟨X2, hX2⟩ : ∃ X2, X2 = sI Xp (a + 17) ix v := ⟨_, rfl⟩
  have x2 : ∀ q, q ≠ a + 17 → X2.1 q = Xp.1 q := fun q hq => by rw [hX2, sI_ne hq]
  obtain ⟨X3, e3, w1, w2, w3, w4, w5, w6⟩ := keepAct (X := X2) hs hk hf (by rw [x2 _ (by omega)]; exact p2) (by rw [x2 _ (by omega)]; exact p1)
  have hX3 : ∀ q, a + 108 ≤ q → q ≤ a + 126 → X3.1 q = X.1 q := fun q q1 q2 => by rw [w1 q (by omega) (by omega) (by omega), x2 q (by omega), hXp q (by omega)]
  have x111 : Xp.1 (a + 111) = X.1 (a + 111) := hXp _ (by omega)
  have hSn : StR X3.1 (a + 1) L R (fun j => if j = 615 + ix then v else X.1 (a + 111) j) 0 := by
    refine hc.1.chs lr (fun q q1 q2 => ?_) (fun j hj => ?_) (fun i hi => ?_)
    · rw [w1 q (by omega) (by omega) (by omega), x2 q (by omega)]
    · rw [if_neg (by omega), x111]
    · have e : X3.1 (a + 1 + 16) = X2.1 (a + 17) := w1 _ (by omega) (by omega) (by omega)
      rw [e, hX2]
      by_cases hi2 : i = ix
      · subst hi2
        rw [sI_eq, if_pos rfl]
        exact ⟨rfl, hv⟩
      · rw [sI_nk hi2, if_neg (by omega), ← x111]
        exact hI.ch hi
  refine ⟨σ1, Xp, c, d, X3, ep, b1, b2, hs, hXp, by rw [← hX2]; exact e3, hX3, w3, hSn, fun Y y1 y2 y3 => ?_⟩
  obtain ⟨k', f', j1, j2, j3, j4, j5, j6⟩ := id hc.2.2.1
  have hk' : k' = k := nI_inj (by omega) (by omega) (j3.symm.trans p2)
  have xm : Xp.1 (a + 108) = X.1 (a + 108) := hXp _ (by omega)
  obtain ⟨Y2, u1, u2, u3, u4, u5, u6, u7⟩ := m_keeps (Y := Y) hD hk (by rw [y2 19 (by omega), ← xm, j4, hk'])
  refine ⟨Y2, u1, u2, fun q q1 q2 => u3 q q1 (by omega), u4, fun Z z1 z2 z3 z4 z5 z6 => ?_⟩
  have xZ : ∀ q, (a + 28 ≤ q ∧ q ≤ a + 29) ∨ (a + 49 ≤ q ∧ q ≤ a + 52) ∨ (a + 84 ≤ q ∧ q ≤ a + 107) ∨ q = a + 109 ∨ q = a + 110 ∨ (a + 122 ≤ q ∧ q ≤ a + 125) ∨ a + 126 < q → Z.1 q = Xp.1 q := by
    intro q hq
    by_cases e : q < a + 108 ∨ a + 126 < q
    · rw [z1 q (by omega), w1 q (by omega) (by omega) (by omega), x2 q (by omega)]
    · rw [z3 q (by omega), u3 q (by omega) (by omega), y1 q (by omega), hXp q (by omega)]
  have hK := hI.kept (Z := sI Z a 10 (nI 0)) hs (fun q hq => by rw [sI_ne (by omega)]; exact xZ q hq) (by rw [sI_nk (by omega), z2 9 (by omega), w2 9 (by omega), x2 a (by omega)]) (by rw [sI_nk (by omega), z2 11 (by omega), w2 11 (by omega), x2 a (by omega)]) (fun j hj => by rw [sI_na (by omega), z4 j (by omega), u4 j (by omega), y2 j (by omega), xm]) (by
      refine (hSn.fr (X1 := (sI Z a 10 (nI 0)).1) (W1 := (sI Z a 10 (nI 0)).1 (a + 111)) lr (fun q q1 q2 => ?_) (fun j hj => ?_))
      · rw [sI_ne (by omega), z1 q (by omega)]
      · rw [Nat.zero_add, sI_na (by omega)]; exact z5 j hj) (by
      refine acts_kept (X := Xp.1) hc.2.2.1 hk hf p2 p1 pr pS ?_ ?_ ?_ (fun j hj => ?_) (fun j hj => ?_) (fun q hq => by rw [sI_ne (by omega)]; exact xZ q (by omega)) hs.2.2.1
      · rw [sI_na (by omega), z1 _ (by omega)]; exact w5
      · rw [sI_na (by omega), z1 _ (by omega)]; exact w6
      · rw [sI_na (by omega), z4 19 (by omega)]; exact u5
      · rw [sI_na (by omega), z3 _ (by omega)]
        refine (u6 j hj).trans ?_
        rw [hXp (a + 112) (by omega), y1 (a + 108 + 4) (by omega)]
      · rw [sI_na (by omega), z3 _ (by omega)]
        refine (u7 j hj).trans ?_
        rw [x111]; exact y3 j hj) sI_eq (fun q hq => by rw [sI_na (by omega), z1 _ (by omega)]; exact w4 q hq)
  -- the merge that stands is put back
  obtain ⟨-, kc, -, kq⟩ := hK
  refine ⟨hs, kc.fr hs (fun q hq => (sI_ne (by omega)).symm) ?_ ?_ ?_ ?_ ?_ ?_ ?_, z6, kq.fr ?_ ?_ ?_ ?_ ?_⟩
  · rw [sI_na (by omega)]
  · intro j _; rw [sI_na (by omega)]
  · intro j _; rw [sI_na (by omega)]
  · rw [sI_nk (by omega)]
  · rw [sI_nk (by omega)]
  · intro j _; rw [sI_na (by omega)]
  · intro j _; rw [sI_na (by omega)]
  · rw [sI_ne (by omega)]
  · rw [sI_ne (by omega)]
  · intro j _; rw [sI_na (by omega)]
  · rw [sI_na (by omega)]
  · intro j _; rw [sI_na (by omega)]
