def sdI (j : Nat) : Bool := decide ((9 ≤ j ∧ j < 27) ∨ (56 ≤ j ∧ j < 236))
theorem sdI_is : ∀ j, j < 316 → f_X1_isOfSides (nI j) = bI (sdI j) := by decide +kernel
def chF (j : Nat) (v : Int32) : Int32 := if v ≤ nI 0 then v else if sdI j = true then nI 3 - v else v
theorem c_ch57 {σ : Sh} {X : Mx} {s L R : Nat} (hs : stOK σ s L R) : ∃ X1, f_X5_changeChoicesAbout_57 σ s FU X (nI 0) = some X1 ∧ X1.2 = X.2 ∧ (∀ q, q ≠ s + 16 → X1.1 q = X.1 q) ∧ (∀ j, j < 316 → X1.1 (s + 16) j = chF j (X.1 (s + 16) j)) := by
  obtain ⟨n, S, e, w1, w2, w3⟩ := up_loop (fun n (S : Mx) k => f_X5_changeChoicesAbout_57 σ s n S (nI k)) 316 (fun k S => S.2 = X.2 ∧ (∀ q, q ≠ s + 16 → S.1 q = X.1 q) ∧ (∀ j, j < 316 → S.1 (s + 16) j = if j < k then chF j (X.1 (s + 16) j) else X.1 (s + 16) j)) (by
    intro n k S hk ⟨h1, h2, h3⟩
    have hv := h3 k hk
    rw [if_neg (by omega)] at hv
    have stay : S.1 (s + 16) k = chF k (X.1 (s + 16) k) → ∀ j, j < 316 → S.1 (s + 16) j = if j < k + 1 then chF j (X.1 (s + 16) j) else X.1 (s + 16) j := fun hc j hj => by
      by_cases e : j = k
      · rw [e, if_pos (by omega)]; exact hc
      · rw [h3 j hj]
        by_cases e2 : j < k
        · rw [if_pos e2, if_pos (by omega)]
        · rw [if_neg e2, if_neg (by omega)]
    have hs' := hs
    obtain ⟨s0, s1, s2, s3, s4, s5, s6, s7, s8, s9, s10, s11, s12, s13, s14, s15, s16, s17, s18⟩ := hs'
    have e0 : f_X5_changeChoicesAbout_57 σ s (n + 1) S (nI k) = (if X.1 (s + 16) k ≤ nI 0 then f_X5_changeChoicesAbout_57 σ s n S (nI (k + 1)) else if bI (sdI k) = nI 0 then f_X5_changeChoicesAbout_57 σ s n S (nI (k + 1)) else f_X5_changeChoicesAbout_57 σ s n (sI S (s + 16) k (nI 3 - X.1 (s + 16) k)) (nI (k + 1))) := by
      rw [f_X5_changeChoicesAbout_57]
      simp only [litM]
      rw [if_neg (by rw [n_le (by omega) (by omega)]; omega)]
      simp only [ldR, s0, s7, if_true, Option.bind_some, f_X5_changeChoicesAbout_94, litM, nI_add]
      rw [ldA_t s17.1 (by rw [s17.2]; omega) (by rw [s17.2]; omega), hv, sdI_is k hk, ldA_t s17.1 (by rw [s17.2]; omega) (by rw [s17.2]; omega), hv, stA_t s17.1 (by rw [s17.2]; omega) (by rw [s17.2]; omega)]
    show ∃ s1, f_X5_changeChoicesAbout_57 σ s (n + 1) S (nI k) = f_X5_changeChoicesAbout_57 σ s n s1 (nI (k + 1)) ∧ _
    rw [e0]
    by_cases v0 : X.1 (s + 16) k ≤ nI 0
    · refine ⟨S, by rw [if_pos v0], h1, h2, stay ?_⟩
      rw [hv, chF, if_pos v0]
    · cases hsd : sdI k with
      | false =>
        refine ⟨S, by rw [if_neg v0, if_pos bI_f], h1, h2, stay ?_⟩
        rw [hv, chF, if_neg v0, hsd, if_neg (by decide)]
      | true =>
        refine ⟨sI S (s + 16) k (nI 3 - X.1 (s + 16) k), by rw [if_neg v0, if_neg (by decide)], h1, fun q hq => by rw [sI_ne hq]; exact h2 q hq, fun j hj => ?_⟩
        by_cases e : j = k
        · rw [e, sI_eq, if_pos (by omega), chF, if_neg v0, hsd, if_pos rfl]
        · rw [sI_nk e, h3 j hj]
          by_cases e2 : j < k
          · rw [if_pos e2, if_pos (by omega)]
          · rw [if_neg e2, if_neg (by omega)]) FU 0 X (by omega) ⟨rfl, fun _ _ => rfl, fun j _ => by rw [if_neg (by omega)]⟩ (by rw [FU_40000]; omega)
  refine ⟨S, ?_, w1, w2, fun j hj => by rw [w3 j hj, if_pos hj]⟩
  refine Eq.trans e ?_
  show f_X5_changeChoicesAbout_57 σ s (n + 1) S (nI 316) = _
  rw [f_X5_changeChoicesAbout_57]
  exact if_pos (Int32.le_refl _)
