/-! ===== flip: the shape ===== -/
theorem objOK.ext1 {σ σ1 : Sh} {a : Nat} (h : objOK σ a) (e : ∀ q, a ≤ q → q ≤ a + 126 → shK σ1 q = shK σ q ∧ shN σ1 q = shN σ q ∧ (q ≠ a + 48 → q ≠ a + 102 → q ≠ a + 1 → ∀ j, shR σ1 q j = shR σ q j)) : objOK σ1 a := by
  have s : ∀ lo hi, a + 2 ≤ lo → hi ≤ a + 126 → (hi < a + 48 ∨ a + 48 < lo) → (hi < a + 102 ∨ a + 102 < lo) → SEq σ σ1 lo hi := fun lo hi h1 h2 h3 h4 q q1 q2 => ⟨(e q (by omega) (by omega)).1, (e q (by omega) (by omega)).2.1, (e q (by omega) (by omega)).2.2 (by omega) (by omega) (by omega)⟩
  have k : ∀ i, i ≤ 126 → shK σ1 (a + i) = shK σ (a + i) := fun i hi => (e _ (by omega) (by omega)).1
  have n : ∀ i, i ≤ 126 → shN σ1 (a + i) = shN σ (a + i) := fun i hi => (e _ (by omega) (by omega)).2.1
  have r : ∀ i, i ≤ 126 → i ≠ 48 → i ≠ 102 → i ≠ 1 → ∀ j, shR σ1 (a + i) j = shR σ (a + i) j := fun i hi h1 h2 h3 => (e _ (by omega) (by omega)).2.2 (by omega) (by omega) (by omega)
  have k0 : shK σ1 a = shK σ a := k 0 (by omega)
  have r0 : ∀ j, shR σ1 a j = shR σ a j := r 0 (by omega) (by omega) (by omega) (by omega)
  obtain ⟨o, oM, ⟨t0, t1, t2, t3, t4, t5⟩, ⟨a0, a1, a2, a3⟩, oS, ⟨q0, q1, q2, q3, q4, q5, q6, q7, q8, q9, q10, q11, q12, q13⟩, oI, ⟨b0, b1, b2, b3⟩, oS2, oR, oD, oO⟩ := h
  refine ⟨by simp only [k0, r0]; exact o, oM.ext (s _ _ (by omega) (by omega) (by omega) (by omega)), ⟨(k 28 (by omega)).trans t0, (r 28 (by omega) (by omega) (by omega) (by omega) 0).trans t1, (r 28 (by omega) (by omega) (by omega) (by omega) 2).trans t2, (k 29 (by omega)).trans t3, (n 29 (by omega)).trans t4, t5.ext (s _ _ (by omega) (by omega) (by omega) (by omega))⟩, ⟨(k 47 (by omega)).trans a0, (r 47 (by omega) (by omega) (by omega) (by omega) 0).trans a1, (k 48 (by omega)).trans a2, (n 48 (by omega)).trans a3⟩, ?_, ⟨(k 53 (by omega)).trans q0, (r 53 (by omega) (by omega) (by omega) (by omega) 0).trans q1, (r 53 (by omega) (by omega) (by omega) (by omega) 1).trans q2, (r 53 (by omega) (by omega) (by omega) (by omega) 2).trans q3, (r 53 (by omega) (by omega) (by omega) (by omega) 3).trans q4, (r 53 (by omega) (by omega) (by omega) (by omega) 4).trans q5, q6.ext (s _ _ (by omega) (by omega) (by omega) (by omega)), q7.ext (s _ _ (by omega) (by omega) (by omega) (by omega)), (k 81 (by omega)).trans q8, (n 81 (by omega)).trans q9, (k 82 (by omega)).trans q10, (n 82 (by omega)).trans q11, (k 83 (by omega)).trans q12, (n 83 (by omega)).trans q13⟩, oI.ext (s _ _ (by omega) (by omega) (by omega) (by omega)), ⟨(k 101 (by omega)).trans b0, (r 101 (by omega) (by omega) (by omega) (by omega) 0).trans b1, (k 102 (by omega)).trans b2, (n 102 (by omega)).trans b3⟩, ?_, ⟨(k 107 (by omega)).trans oR.1, (n 107 (by omega)).trans oR.2⟩, oD.ext (s _ _ (by omega) (by omega) (by omega) (by omega)), ⟨(k 126 (by omega)).trans oO.1, (n 126 (by omega)).trans oO.2⟩⟩
  · unfold snOK at oS ⊢
    rw [k 49 (by omega), r 49 (by omega) (by omega) (by omega) (by omega), r 49 (by omega) (by omega) (by omega) (by omega), r 49 (by omega) (by omega) (by omega) (by omega)]
    rw [show shK σ1 (a + 49 + 1) = shK σ (a + 49 + 1) from k 50 (by omega), show shN σ1 (a + 49 + 1) = shN σ (a + 49 + 1) from n 50 (by omega), show shK σ1 (a + 49 + 2) = shK σ (a + 49 + 2) from k 51 (by omega), show shN σ1 (a + 49 + 2) = shN σ (a + 49 + 2) from n 51 (by omega), show shK σ1 (a + 49 + 3) = shK σ (a + 49 + 3) from k 52 (by omega), show shN σ1 (a + 49 + 3) = shN σ (a + 49 + 3) from n 52 (by omega)]
    exact oS
  · unfold snOK at oS2 ⊢
    rw [k 103 (by omega), r 103 (by omega) (by omega) (by omega) (by omega), r 103 (by omega) (by omega) (by omega) (by omega), r 103 (by omega) (by omega) (by omega) (by omega)]
    rw [show shK σ1 (a + 103 + 1) = shK σ (a + 103 + 1) from k 104 (by omega), show shN σ1 (a + 103 + 1) = shN σ (a + 103 + 1) from n 104 (by omega), show shK σ1 (a + 103 + 2) = shK σ (a + 103 + 2) from k 105 (by omega), show shN σ1 (a + 103 + 2) = shN σ (a + 103 + 2) from n 105 (by omega), show shK σ1 (a + 103 + 3) = shK σ (a + 103 + 3) from k 106 (by omega), show shN σ1 (a + 103 + 3) = shN σ (a + 103 + 3) from n 106 (by omega)]
    exact oS2
theorem IVs.flip {σ : Sh} {a L R : Nat} (hs : IVs σ a L R) (h2 : stOK (sR (sR σ (a + 1) 1 (some R)) (a + 1) 2 (some L)) (a + 1) R L) : IVs (sR (sR σ (a + 1) 1 (some R)) (a + 1) 2 (some L)) a R L ∧ pot (sR (sR σ (a + 1) 1 (some R)) (a + 1) 2 (some L)) a = pot σ a := by
  obtain ⟨τ, hτ⟩ : ∃ τ, τ = sR (sR σ (a + 1) 1 (some R)) (a + 1) 2 (some L) := ⟨_, rfl⟩
  rw [← hτ] at h2 ⊢
  have tK : ∀ q, shK τ q = shK σ q := fun q => by rw [hτ]; rfl
  have tN : ∀ q, shN τ q = shN σ q := fun q => by rw [hτ]; rfl
  have tR : ∀ q j, shR τ q j = if q = a + 1 ∧ j = 2 then some L else if q = a + 1 ∧ j = 1 then some R else shR σ q j := fun q j => by rw [hτ]; rfl
  have tRn : ∀ q, q ≠ a + 1 → ∀ j, shR τ q j = shR σ q j := fun q hq j => by rw [tR, if_neg (by omega), if_neg (by omega)]
  have tL : shL τ = shL σ := by rw [hτ]; rfl
  refine ⟨⟨hs.1.ext1 (fun q _ _ => ⟨tK q, tN q, fun _ _ h => tRn q h⟩), h2, ⟨fun c i s h1 h3 h4 => ?_, fun c i s c' i' s' h1 h3 h4 h5 h6 h7 h8 => ?_⟩, fun q hq => ?_⟩, ?_⟩
  · rw [tRn c (by omega)] at h4
    obtain ⟨k1, k2⟩ := hs.2.2.1.1 c i s h1 h3 h4
    exact ⟨k1.ext (fun q q1 q2 => ⟨tK q, tN q, tRn q (by omega)⟩), k2⟩
  · rw [tRn c (by omega)] at h4
    rw [tRn c' (by omega)] at h7
    exact hs.2.2.1.2 c i s c' i' s' h1 h3 h4 h5 h6 h7 h8
  · rw [tK] at hq
    rw [tL]
    exact hs.2.2.2 q hq
  · unfold pot
    rw [nul_eq (σ := σ) (σ1 := τ) (c := a + 48) 31 (fun j _ => tRn _ (by omega) j), nul_eq (σ := σ) (σ1 := τ) (c := a + 102) 31 (fun j _ => tRn _ (by omega) j)]
