def swc (i c : Nat) : Nat := if c = 5 + i then 7 + i else if c = 7 + i then 5 + i else c
def per (i j : Nat) : Nat := if j < 27 then j else if j < 36 then 27 + swc i (j - 27) else if j < 56 then j else if j < 236 then 56 + (9 * ((j - 56) / 9) + swc i ((j - 56) % 9)) else j
theorem per_cfl : ∀ j, j < 316 → per 1 j < 316 ∧ per 0 (per 1 j) = cfl j := by decide +kernel
theorem c_choices {σ : Sh} {X : Mx} {s L R : Nat} (hs : stOK σ s L R) : ∃ X1, f_X5_changeChoicesAbout σ X s = some X1 ∧ X1.2 = X.2 ∧ (∀ q, q ≠ s + 16 → X1.1 q = X.1 q) ∧ (∀ j, j < 316 → X1.1 (s + 16) j = chF j (X.1 (s + 16) (cfl j))) := by
  obtain ⟨n, hn⟩ : ∃ n, FU = n + 1 + 1 + 1 := ⟨39997, FU_40000⟩
  have st : ∀ (n i : Nat) (Y : Mx), i < 2 → ∃ Y1, f_X5_changeChoicesAbout_2 σ s (n + 1) Y (nI i) = f_X5_changeChoicesAbout_2 σ s n Y1 (nI (i + 1)) ∧ Y1.2 = Y.2 ∧ (∀ q, q ≠ s + 16 → Y1.1 q = Y.1 q) ∧ (∀ j, j < 316 → Y1.1 (s + 16) j = Y.1 (s + 16) (per i j)) := by
    intro n i Y hi
    obtain ⟨Y1, e, w1, w2, w3, w4⟩ := c_ch23 (X := swp Y (s + 16) (9 * 3 + (5 + i)) (9 * 3 + (7 + i))) (k2 := f_X5_changeChoicesAbout_2 σ s n) hs hi
    refine ⟨Y1, ?_, w1, fun q hq => by rw [w2 q hq, swp_ne hq], fun j hj => ?_⟩
    · rw [f_X5_changeChoicesAbout_2]
      simp only [litM]
      rw [if_neg (by rw [n_le (by omega) (by omega)]; omega), nI_add, nI_add, c_swc hs (id_col 3 (by omega) (5 + i) (by omega)).1 (id_col 3 (by omega) (7 + i) (by omega)).1 (by omega) (by omega), Option.bind_some]
      exact e
    · by_cases hr : j < 56 ∨ 236 ≤ j
      · rw [w3 j hr, swp_at]
        by_cases j27 : 27 ≤ j ∧ j < 36
        · have hp : per i j = 27 + swc i (j - 27) := by unfold per; rw [if_neg (by omega), if_pos j27.2]
          rw [hp]
          unfold swc
          by_cases c7 : j = 34 + i
          · rw [if_pos (show j = 9 * 3 + (7 + i) by omega), if_neg (show ¬ j - 27 = 5 + i by omega), if_pos (show j - 27 = 7 + i by omega)]
          · by_cases c5 : j = 32 + i
            · rw [if_neg (show ¬ j = 9 * 3 + (7 + i) by omega), if_pos (show j = 9 * 3 + (5 + i) by omega), if_pos (show j - 27 = 5 + i by omega)]
            · rw [if_neg (show ¬ j = 9 * 3 + (7 + i) by omega), if_neg (show ¬ j = 9 * 3 + (5 + i) by omega), if_neg (show ¬ j - 27 = 5 + i by omega), if_neg (show ¬ j - 27 = 7 + i by omega), show 27 + (j - 27) = j by omega]
        · have hp : per i j = j := by
            unfold per
            by_cases a1 : j < 27
            · rw [if_pos a1]
            · rw [if_neg a1, if_neg (by omega)]
              by_cases a2 : j < 56
              · rw [if_pos a2]
              · rw [if_neg a2, if_neg (by omega)]
          rw [hp, if_neg (show ¬ j = 9 * 3 + (7 + i) by omega), if_neg (show ¬ j = 9 * 3 + (5 + i) by omega)]
      · obtain ⟨k, c, hk, hc, rfl⟩ : ∃ k c, k < 20 ∧ c < 9 ∧ j = 56 + (9 * k + c) := ⟨(j - 56) / 9, (j - 56) % 9, by omega, by omega, by omega⟩
        have hp : per i (56 + (9 * k + c)) = 56 + (9 * k + swc i c) := by
          unfold per
          rw [if_neg (by omega), if_neg (by omega), if_neg (by omega), if_pos (by omega), show (56 + (9 * k + c) - 56) / 9 = k by omega, show (56 + (9 * k + c) - 56) % 9 = c by omega]
        have hw := w4 k c hk hc
        have hsw : swc i c < 9 := by unfold swc; split <;> (try split) <;> omega
        rw [hp, hw]
        show (swp Y (s + 16) (9 * 3 + (5 + i)) (9 * 3 + (7 + i))).1 (s + 16) (56 + (9 * k + swc i c)) = _
        rw [swp_at, if_neg (by omega), if_neg (by omega)]
  obtain ⟨Y1, e1, a1, a2, a3⟩ := st (n + 1 + 1) 0 X (by omega)
  obtain ⟨Y2, e2, b1, b2, b3⟩ := st (n + 1) 1 Y1 (by omega)
  obtain ⟨Y3, e3, c1, c2, c3⟩ := c_ch57 (X := Y2) hs
  refine ⟨Y3, ?_, by rw [c1, b1, a1], fun q hq => by rw [c2 q hq, b2 q hq, a2 q hq], fun j hj => ?_⟩
  · unfold f_X5_changeChoicesAbout
    rw [grd_t hs.1, hn]
    refine Eq.trans e1 (Eq.trans e2 ?_)
    rw [f_X5_changeChoicesAbout_2]
    simp only [litM]
    rw [if_pos (by rw [n_le (by omega) (by omega)]; omega)]
    exact e3
  · rw [c3 j hj, b3 j hj, a3 _ (per_cfl j hj).1, (per_cfl j hj).2]
