/-! ===== questions that are tried out: what is kept of them ===== -/
def FndF (X X1 : Mx) (q i : Nat) : Prop := X1.2 = X.2 ∧ (∀ p, (p < q ∨ q + 30 < p) → X1.1 p = X.1 p) ∧ (∀ j, j ≠ i → X1.1 (q + 28) j = X.1 (q + 28) j) ∧ (∀ j, (j < 3 * i ∨ 3 * i + 3 ≤ j) → X1.1 (q + 29) j = X.1 (q + 29) j)
theorem FndF.refl {X : Mx} {q i : Nat} : FndF X X q i := ⟨rfl, fun _ _ => rfl, fun _ _ => rfl, fun _ _ => rfl⟩
theorem FndF.trans {X Y Z : Mx} {q i : Nat} (h : FndF X Y q i) (k : FndF Y Z q i) : FndF X Z q i := ⟨k.1.trans h.1, fun p hp => (k.2.1 p hp).trans (h.2.1 p hp), fun j hj => (k.2.2.1 j hj).trans (h.2.2.1 j hj), fun j hj => (k.2.2.2 j hj).trans (h.2.2.2 j hj)⟩
theorem FndF.of {X X1 : Mx} {q i : Nat} (h2 : X1.2 = X.2) (h : ∀ p, (p < q ∨ q + 27 < p) → p ≠ q + 30 → X1.1 p = X.1 p) : FndF X X1 q i := ⟨h2, fun p hp => h p (by omega) (by omega), fun j _ => by rw [h (q + 28) (by omega) (by omega)], fun j _ => by rw [h (q + 29) (by omega) (by omega)]⟩
theorem FndF.run {X X1 : Mx} {q i : Nat} (h : FrX X X1 (q + 18) (q + 18 + 9)) : FndF X X1 q i := FndF.of h.1 (fun p h1 _ => h.2 p (by omega))
theorem keepAns {σ : Sh} {X : Mx} {q i : Nat} {x y z : Int32} (hq : quOK σ q) (hi : i < 7) : ∃ X1, f_X3_keepAnswer σ X q (nI i) x y z = some X1 ∧ FndF X X1 q i ∧ (∀ p, p ≠ q + 28 → p ≠ q + 29 → X1.1 p = X.1 p) ∧ X1.1 (q + 28) i = nI 1 ∧ (∀ w, w < 3 → X1.1 (q + 29) (3 * i + w) = if w = 0 then x else if w = 1 then y else z) := by
  obtain ⟨q0, q1, q2, q3, q4, q5, qs, qg, k28, n28, k29, n29, k30, n30⟩ := hq
  refine ⟨sI (sI (sI (sI X (q + 28) i (nI 1)) (q + 29) (3 * i) x) (q + 29) (3 * i + 1) y) (q + 29) (3 * i + 2) z, ?_, ⟨rfl, fun p hp => ?_, fun j hj => ?_, fun j hj => ?_⟩, fun p h1 h2 => ?_, ?_, fun w hw => ?_⟩
  · unfold f_X3_keepAnswer
    simp only [litM]
    rw [grd_t q0, if_neg (by rw [n_lt (by omega) (by omega)]; omega), if_neg (by rw [n_le (by omega) (by omega)]; omega)]
    simp only [ldR, q0, q3, q4, if_true, Option.bind_some, nI_mul, nI_add]
    rw [Nat.mul_comm i 3, stA_t k28 (by omega) (by omega), stA_t k29 (by omega) (by omega), stA_t k29 (by omega) (by omega), stA_t k29 (by omega) (by omega)]
  · rw [sI_ne (by omega), sI_ne (by omega), sI_ne (by omega), sI_ne (by omega)]
  · rw [sI_na (by omega), sI_na (by omega), sI_na (by omega), sI_nk hj]
  · rw [sI_nk (by omega), sI_nk (by omega), sI_nk (by omega), sI_na (by omega)]
  · rw [sI_ne h2, sI_ne h2, sI_ne h2, sI_ne h1]
  · rw [sI_na (by omega), sI_na (by omega), sI_na (by omega), sI_eq]
  · rcases (show w = 0 ∨ w = 1 ∨ w = 2 by omega) with rfl | rfl | rfl
    · rw [sI_nk (by omega), sI_nk (by omega)]; exact sI_eq
    · rw [sI_nk (by omega), sI_eq]; rfl
    · rw [sI_eq]; rfl
theorem s_answerTo {σ : Sh} {X : Mx} {q i w : Nat} (hq : quOK σ q) (hi : i < 7) (hw : w < 3) : f_X3_answerTo σ X q (nI i) (nI w) = some (X.1 (q + 29) (3 * i + w)) := by
  obtain ⟨q0, q1, q2, q3, q4, q5, qs, qg, k28, n28, k29, n29, k30, n30⟩ := hq
  unfold f_X3_answerTo
  simp only [litM, nI_mul, nI_add]
  rw [grd_t q0, if_neg (by rw [n_lt (by omega) (by omega)]; omega)]
  simp only [ldR, q0, q4, if_true, Option.bind_some]
  rw [lenA_t k29, n29, if_neg (by rw [n_le (by omega) (by omega)]; omega), ldA_t k29 (by omega) (by omega), Nat.mul_comm i 3]
theorem s_knows {σ : Sh} {X : Mx} {q i : Nat} (hq : quOK σ q) (hi : i < 7) : f_X3_knows σ X q (nI i) = some (bI (decide (X.1 (q + 28) i ≠ nI 0))) := by
  obtain ⟨q0, q1, q2, q3, q4, q5, qs, qg, k28, n28, k29, n29, k30, n30⟩ := hq
  unfold f_X3_knows
  simp only [litM]
  rw [grd_t q0, if_neg (by rw [n_lt (by omega) (by omega)]; omega), if_neg (by rw [n_le (by omega) (by omega)]; omega)]
  simp only [ldR, q0, q3, if_true, Option.bind_some]
  rw [ldA_t k28 (by omega) (by omega)]
  by_cases e : X.1 (q + 28) i = nI 0
  · rw [if_pos e, decide_eq_false (fun h => h e)]; rfl
  · rw [if_neg e, decide_eq_true e]; rfl
theorem QuC.fr2 {X X1 : Nat → Nat → Int32} {a q : Nat} (h : QuC X a q) (h82 : ∀ w, w < 3 → X1 (a + 82) (3 * q + w) = X (a + 82) (3 * q + w)) (hr : ∀ j, j < 931 → X1 (a + 111) j = X (a + 111) j) (h32 : X1 (a + 108) 32 = X (a + 108) 32) (hn : ∀ j, j < 24 → X1 (a + 122) j = X (a + 122) j) : QuC X1 a q := by
  intro w τ Y hw hm h1 h2 h3
  rw [h82 w hw]
  exact h w τ Y hw hm (fun j hj => (h1 j hj).trans (hr j hj)) (h2.trans h32) (fun j hj => (h3 j hj).trans (hn j hj))
/-- an answer found: both stay alike, and the answer is the reference's -/
theorem found {σ : Sh} {X X1 : Mx} {a L R i : Nat} (h : IV σ X a L R) (hF : FndF X X1 (a + 53) i) (hi : i < 6) (hC : ∀ (w : Nat) (τ : Sh) (Y : Mx), w < 3 → mdOK τ (a + 108) → (∀ j, j < 931 → Y.1 (a + 111) j = X.1 (a + 111) j) → Y.1 (a + 108) 32 = X.1 (a + 108) 32 → (∀ j, j < 24 → Y.1 (a + 122) j = X.1 (a + 122) j) → ∃ Y1, askQ τ Y (a + 108) i w = some (X1.1 (a + 82) (3 * i + w), Y1) ∧ FrQ Y Y1 (a + 108) ∧ Y1.1 (a + 108) 0 = nI 0) : IV σ X1 a L R ∧ QuC X1.1 a i := by
  have e : ∀ p, (p < a + 53 ∨ a + 83 < p) → X1.1 p = X.1 p := fun p hp => hF.2.1 p (by omega)
  have hQ : QuC X1.1 a i := by
    intro w τ Y hw hm h1 h2 h3
    rw [e (a + 111) (by omega)] at h1
    rw [e (a + 108) (by omega)] at h2
    rw [e (a + 122) (by omega)] at h3
    exact hC w τ Y hw hm h1 h2 h3
  obtain ⟨hs, hc, hm, hq⟩ := id h
  have lr := hs.lr
  refine ⟨⟨hs, hc.frC hs ⟨hF.1, fun q _ _ hq => e q hq, fun j _ => by rw [e a (by omega)]⟩, hm.fr lr (by rw [e a (by omega)]) (fun q h1 h2 => e q (by omega)) (fun j _ => by rw [e _ (by omega)]), fun q hq6 => ?_⟩, hQ⟩
  by_cases eq : q = i
  · subst eq; exact Or.inr hQ
  · have e81 : X1.1 (a + 81) q = X.1 (a + 81) q := hF.2.2.1 q eq
    rw [e81]
    refine (hq q hq6).imp_right (fun hh => hh.fr2 (fun w hw => hF.2.2.2 _ (by omega)) (fun j _ => by rw [e _ (by omega)]) (by rw [e _ (by omega)]) (fun j _ => by rw [e _ (by omega)]))
theorem IVs.qu {σ : Sh} {a L R : Nat} (h : IVs σ a L R) : quOK σ (a + 53) := h.1.2.2.2.2.2.1
theorem ask_fin {σ : Sh} {X : Mx} {a L R i : Nat} {ρ : Type} (h : IV σ X a L R) (hi : i < 6) {find : Option Mx} {K : Mx → Option ρ} (hf : ∃ X1, find = some X1 ∧ IV σ X1 a L R ∧ QuC X1.1 a i) : ∃ X1, ((f_X3_knows σ X (a + 53) (nI i)).bind fun v => if v = nI 0 then find.bind fun X8 => K X8 else K X) = K X1 ∧ IV σ X1 a L R ∧ QuC X1.1 a i := by
  rw [s_knows h.1.qu (by omega), Option.bind_some]
  by_cases e : X.1 (a + 53 + 28) i = nI 0
  · obtain ⟨X1, e1, e2, e3⟩ := hf
    refine ⟨X1, ?_, e2, e3⟩
    rw [decide_eq_false (fun q => q e), if_pos bI_f, e1, Option.bind_some]
  · refine ⟨X, ?_, h, (h.2.2.2 i hi).resolve_left e⟩
    rw [decide_eq_true e, if_neg (by decide)]
theorem StR.chsb {X X1 : Nat → Nat → Int32} {s L R b : Nat} {W W1 : Nat → Int32} (h : StR X s L R W b) (lr : (L = s + 5 ∧ R = s + 9) ∨ (L = s + 9 ∧ R = s + 5)) (hX : ∀ q, s ≤ q → q < s + 16 → X1 q = X q) (hW : ∀ j, b ≤ j → j < b + 615 → W1 j = W j) (hc : ∀ i, i < 316 → X1 (s + 16) i = W1 (b + 615 + i) ∧ chOI i (X1 (s + 16) i)) : StR X1 s L R W1 b := by
  obtain ⟨tL, tR, tB, lB, lL, lR, ⟨d, d1, d2, d3, d4⟩, ⟨p, p1, p2, p3, p4⟩, ⟨q, q1, q2, q3, q4⟩, cs⟩ := h
  unfold StR
  rw [hX (s + 1) (by omega) (by omega), hX L (by omega) (by omega), hX R (by omega) (by omega), hX s (by omega) (by omega), hX (s + 13) (by omega) (by omega), hX (s + 14) (by omega) (by omega), hX (s + 15) (by omega) (by omega), hW (b + 600) (by omega) (by omega), hW (b + 613) (by omega) (by omega), hW (b + 614) (by omega) (by omega)]
  refine ⟨tL.fr (fun q h1 h2 => hX q (by omega) (by omega)) (fun j h1 h2 => hW j (by omega) (by omega)), tR.fr (fun q h1 h2 => hX q (by omega) (by omega)) (fun j h1 h2 => hW j (by omega) (by omega)), tB.fr (fun q h1 h2 => hX q (by omega) (by omega)) (fun j h1 h2 => hW j (by omega) (by omega)), lB, lL, lR, ⟨d, d1, d2, d3, fun i hi => ?_⟩, ⟨p, p1, p2, p3, p4⟩, ⟨q, q1, q2, q3, q4⟩, hc⟩
  rw [hW (b + 601 + i) (by omega) (by omega), hW (b + 605 + i) (by omega) (by omega), hW (b + 609 + i) (by omega) (by omega)]
  exact d4 i hi
theorem min_both : ∀ c, c < 3 → ∀ q, q < 4 → 2 ≤ q → f_J9_min_7cf53 (nI c) (nI q - nI 1) = nI (min c (q - 1)) ∧ f_X10_lesser (nI c) (nI q - nI 1) = nI (min c (q - 1)) := by decide +kernel
theorem id_at {i : Nat} (hi : i < 316) : f_X10_choiceAt (f_X1_kindOf (nI i)) (f_X1_firstOf (nI i)) (f_X1_secondOf (nI i)) = nI i := by
  have e := id_back i hi
  rcases id_any (f_X1_kindOf (nI i)) (f_X1_firstOf (nI i)) (f_X1_secondOf (nI i)) with ⟨h1, -⟩ | ⟨j, hj, hR⟩
  · rw [e] at h1
    exact absurd h1 (by rw [m_eq (by omega)]; exact not_false)
  · obtain ⟨r1, r2, -⟩ := hR
    rw [r2, ← r1, e]
/-- a merge of what is tried -/
theorem trial_run {σ τ : Sh} {q m : Nat} {X Y : Mx} (hq : quOK σ q) (hm : mdOK τ m) (hS : StR X.1 (q + 1) (q + 1 + 5) (q + 1 + 9) (Y.1 (m + 3)) 931) : ∃ X1 Y1 n, f_X2_run σ X (q + 18) (q + 1) = some X1 ∧ f_X10_merges τ Y m (nI 931) = some Y1 ∧ n ≤ 299 ∧ FrX X X1 (q + 18) (q + 18 + 9) ∧ FrY Y Y1 m ∧ MR n (X.1 (q + 1 + 16)) (X.1 (q + 1 + 5) 0) (X.1 (q + 1 + 9) 0) X1.1 (q + 18) Y1.1 m ∧ StR X1.1 (q + 1) (q + 1 + 5) (q + 1 + 9) (Y1.1 (m + 3)) 931 := by
  obtain ⟨q0, q1, q2, q3, q4, q5, qs, qg, -⟩ := hq
  obtain ⟨X1, Y1, n, e1, e2, e3, e4⟩ := merge_rel (b := 931) qg qs hm (by omega) (Or.inl (by omega)) hS
  refine ⟨X1, Y1, n, e1, e2, e3, e4.1, e4.2.1, e4.2.2, ?_⟩
  refine hS.fr (Or.inl ⟨rfl, rfl⟩) (fun p h1 h2 => e4.1.2 p (by omega)) (fun j hj => by rw [e4.2.1.2.1 (m + 3) (by omega) (by omega)])
theorem al_loop {σ τ : Sh} {q m ch w : Nat} (hq : quOK σ q) (hm : mdOK τ m) (hch : ch < 3) (hw : w < 3) : ∀ (r k N M : Nat) (X Y : Mx) (n : Nat) (cc : Nat → Int32) (lh rh : Int32), k + r = 200 → r < N → r < M → StR X.1 (q + 1) (q + 1 + 5) (q + 1 + 9) (Y.1 (m + 3)) 931 → n ≤ 299 → MR n cc lh rh X.1 (q + 18) Y.1 m → ∃ X1 Y1, f_X3_findAlong_21 σ q (nI ch) N X (nI k) = some X1 ∧ f_X10_along_43 τ m (nI ch) (nI w) M Y (nI k) = some (X1.1 (q + 29) (3 * (2 + ch) + w), Y1) ∧ FndF X X1 q (2 + ch) ∧ FrQ Y Y1 m ∧ Y1.1 m 0 = Y.1 m 0 := by
  have hqq := id hq
  obtain ⟨q0, q1, q2, q3, q4, q5, qs, qg, k28, n28, k29, n29, k30, n30⟩ := hq
  have hmm := id hm
  obtain ⟨m0, m1, m2, m3, m4, m5, m6, m7, m8, m9, m10, m11, m12, m13, m14, m15, m16, m17, mq1, mq2, mq3, mq4, mq5, mq6, mq7, mq8, mq9, mq10, mq11, mq12, mq13, mq14, mq15, mq16, mq17, mn1, mn2, mn3, mn4, mn5, mn6, mn7, mn8, mn9, mn10, mn11, mn12, mn13, mn14, mn15, mn16, mn17⟩ := hm
  have fin : ∀ (k : Nat) (X Y : Mx) (n : Nat) (cc : Nat → Int32) (lh rh : Int32), n ≤ 299 → MR n cc lh rh X.1 (q + 18) Y.1 m → ∃ X1, f_X3_findAlong_87 σ q (nI ch) (nI k) X = some X1 ∧ f_X10_along_119 τ m (nI w) (nI k) Y = some (X1.1 (q + 29) (3 * (2 + ch) + w), Y) ∧ FndF X X1 q (2 + ch) := by
    intro k X Y n cc lh rh hn hR
    have gT : tabOK σ (q + 18 + 1) := qg.2.2.2.2.2.2.2.1
    have lo : low 20 (X.1 (q + 18 + 1) 1) := by rw [hR.1.2.1]; exact hR.1.2.2.2.1
    obtain ⟨X1, e1, e2, -, -, e3⟩ := keepAns (X := X) (i := 2 + ch) (x := nI k) (y := nI n) (z := nI (cnt 20 (X.1 (q + 18 + 1) 1))) hqq (by omega)
    refine ⟨X1, ?_, ?_, e2⟩
    · unfold f_X3_findAlong_87
      simp only [litM]
      simp only [ldR, q0, q2, qg.1, qg.2.1, if_true, Option.bind_some, nI_add]
      rw [ldI_t qg.1, ldI_t gT.1, hR.2.1.1, s_bitCount lo, e1, Option.bind_some]
    · unfold f_X10_along_119
      simp only [litM]
      rw [e3 w hw, ldI_t m0, ldI_t m0, hR.2.1.2.1, s_bits, Option.bind_some, hR.1.2.1]
      rcases (show w = 0 ∨ w = 1 ∨ w = 2 by omega) with rfl | rfl | rfl
      · rfl
      · rfl
      · rfl
  intro r
  induction r with
  | zero =>
    intro k N M X Y n cc lh rh hk hN hM hS hn hR
    obtain ⟨N, rfl⟩ : ∃ N', N = N' + 1 := ⟨N - 1, by omega⟩
    obtain ⟨M, rfl⟩ : ∃ N', M = N' + 1 := ⟨M - 1, by omega⟩
    obtain ⟨X1, e1, e2, e3⟩ := fin k X Y n cc lh rh hn hR
    refine ⟨X1, Y, ?_, ?_, e3, FrQ.refl, rfl⟩
    · rw [f_X3_findAlong_21]
      simp only [litM]
      rw [if_pos (by rw [n_le (by omega) (by omega)]; omega)]
      exact e1
    · rw [f_X10_along_43]
      simp only [litM]
      rw [ldI_t m0]
      by_cases e : Y.1 m 22 ≤ nI 0
      · rw [if_pos e]; exact e2
      · rw [if_neg e, if_pos (by rw [n_le (by omega) (by omega)]; omega)]; exact e2
  | succ r ih =>
    intro k N M X Y n cc lh rh hk hN hM hS hn hR
    obtain ⟨N, rfl⟩ : ∃ N', N = N' + 1 := ⟨N - 1, by omega⟩
    obtain ⟨M, rfl⟩ : ∃ N', M = N' + 1 := ⟨M - 1, by omega⟩
    by_cases n0 : n = 0
    · obtain ⟨X1, e1, e2, e3⟩ := fin k X Y n cc lh rh hn hR
      refine ⟨X1, Y, ?_, ?_, e3, FrQ.refl, rfl⟩
      · rw [f_X3_findAlong_21]
        simp only [litM]
        rw [if_neg (by rw [n_le (by omega) (by omega)]; omega)]
        simp only [ldR, q0, q2, if_true, Option.bind_some]
        rw [ldI_t qg.1, hR.2.1.1, if_pos (by rw [n_le (by omega) (by omega)]; omega)]
        exact e1
      · rw [f_X10_along_43]
        simp only [litM]
        rw [ldI_t m0, hR.2.1.2.1, if_pos (by rw [n_le (by omega) (by omega)]; omega)]
        exact e2
    · obtain ⟨ix, ⟨i1, i2⟩, j1, j2, j3, j4, -⟩ := hR.2.1.2.2 0 (by omega)
      obtain ⟨p, p1, p2, p3⟩ := chs_of ix i1
      obtain ⟨c1, c2⟩ := min_both ch hch p (by omega) (by omega)
      obtain ⟨X', hX'⟩ : ∃ X', X' = sI X (q + 1 + 16) ix (nI (min ch (p - 1))) := ⟨_, rfl⟩
      obtain ⟨Y', hY'⟩ : ∃ Y', Y' = sI Y (m + 3) (1546 + ix) (nI (min ch (p - 1))) := ⟨_, rfl⟩
      have hS' : StR X'.1 (q + 1) (q + 1 + 5) (q + 1 + 9) (Y'.1 (m + 3)) 931 := by
        refine hS.chsb (Or.inl ⟨rfl, rfl⟩) (fun p h1 h2 => by rw [hX', sI_ne (by omega)]) (fun j h1 h2 => by rw [hY', sI_nk (by omega)]) (fun i hi => ?_)
        rw [hX', hY', show 931 + 615 + i = 1546 + i by omega]
        by_cases e : i = ix
        · subst e
          rw [sI_eq, sI_eq]
          refine ⟨rfl, ?_, fun h1 h2 => absurd (i2 h1) (by omega)⟩
          rcases (show min ch (p - 1) = 0 ∨ min ch (p - 1) = 1 ∨ min ch (p - 1) = 2 by omega) with h | h | h
          · rw [h]; exact Or.inr (Or.inl rfl)
          · rw [h]; exact Or.inr (Or.inr (Or.inl rfl))
          · rw [h]; exact Or.inr (Or.inr (Or.inr rfl))
        · rw [sI_nk e, sI_nk (by omega)]
          exact hS.2.2.2.2.2.2.2.2.2 i hi
      obtain ⟨X2, Y2, n2, r1, r2, r3, r4, r5, r6, r7⟩ := trial_run hqq hmm hS'
      obtain ⟨X3, Y3, e1, e2, e3, e4, e5⟩ := ih (k + 1) N M X2 Y2 n2 _ _ _ (by omega) (by omega) (by omega) r7 r3 r6
      refine ⟨X3, Y3, ?_, ?_, ?_, ?_, ?_⟩
      · rw [f_X3_findAlong_21]
        simp only [litM]
        rw [if_neg (by rw [n_le (by omega) (by omega)]; omega)]
        simp only [ldR, q0, q1, q2, qg.1, qg.2.2.2.1, qs.1, qs.2.2.2.2.2.2.2.1, if_true, Option.bind_some]
        rw [ldI_t qg.1, hR.2.1.1, if_neg (by rw [n_le (by omega) (by omega)]; omega)]
        obtain ⟨g0, g1, g2, g3, g4, g5, g6, gT, k5, l5, k6, l6, k7, l7, k8, l8, k9, l9⟩ := qg
        rw [ldA_t k6 (by omega) (by omega), j1, p2, c1]
        have z16 := qs.2.2.2.2.2.2.2.2.2.2.2.2.2.2.2.2.2.1
        rw [stA_t z16.1 (by rw [z16.2]; exact i1) (by rw [z16.2]; omega), ← hX', r1, Option.bind_some, nI_add]
        exact e1
      · rw [f_X10_along_43]
        simp only [litM]
        rw [ldI_t m0, hR.2.1.2.1, if_neg (by rw [n_le (by omega) (by omega)]; omega), if_neg (by rw [n_le (by omega) (by omega)]; omega)]
        simp only [ldR, m0, m10, m3, if_true, Option.bind_some]
        rw [ldA_t mq10 (by omega) (by omega), ldA_t mq10 (by omega) (by omega), ldA_t mq10 (by omega) (by omega), ldA_t mq10 (by omega) (by omega)]
        rw [show Y.1 (m + 10) 0 = f_X1_kindOf (nI ix) from j2, show Y.1 (m + 10) 1 = f_X1_firstOf (nI ix) from j3, show Y.1 (m + 10) 2 = f_X1_secondOf (nI ix) from j4, p3, c2, id_at i1, nI_add, stA_t mq3 (by omega) (by omega), ← hY', r2, Option.bind_some, nI_add]
        exact e2
      · refine FndF.trans ?_ ((FndF.run r4).trans e3)
        rw [hX']
        exact FndF.of rfl (fun p h1 _ => sI_ne (by omega))
      · refine FrQ.trans ?_ (r5.q.trans e4)
        rw [hY']
        exact ⟨rfl, fun p hp => sI_ne (by omega), fun j _ => sI_na (by omega), fun j hj => sI_nk (by omega)⟩
      · rw [e5, r5.2.2 0 (by omega) (by omega) (by omega), hY', sI_na (by omega)]
