/-! ===== flip: the class's choices ===== -/
theorem c_swc {σ : Sh} {X : Mx} {s L R p q : Nat} {kd a b c d : Int32} (hs : stOK σ s L R) (hp : f_X1_idOf kd a b = nI p) (hq : f_X1_idOf kd c d = nI q) (p3 : p < 316) (q3 : q < 316) : f_X5_swapChoices σ X s kd a b c d = some (swp X (s + 16) p q) := by
  obtain ⟨s0, s1, s2, s3, s4, s5, s6, s7, s8, s9, s10, s11, s12, s13, s14, s15, s16, s17, s18⟩ := hs
  unfold f_X5_swapChoices
  rw [grd_t s0]
  simp only [ldR, s0, s7, if_true, Option.bind_some]
  rw [hp, hq, s_swap s17.1 s17.2 (by omega) p3 q3, Option.bind_some]
/-- which choice comes to place j -/
def cfl (j : Nat) : Nat := if j < 27 then j else if j < 36 then 27 + flp (j - 27) else if j < 56 then j else if j < 236 then 56 + (9 * ((j - 56) / 9) + flp ((j - 56) % 9)) else j
theorem c_ch23 {σ : Sh} {X : Mx} {s L R i : Nat} {k2 : Mx → Int32 → Option Mx} (hs : stOK σ s L R) (hi : i < 2) : ∃ X1, f_X5_changeChoicesAbout_23 k2 σ s (nI i) FU X (nI 0) = k2 X1 (nI (i + 1)) ∧ X1.2 = X.2 ∧ (∀ q, q ≠ s + 16 → X1.1 q = X.1 q) ∧ (∀ j, (j < 56 ∨ 236 ≤ j) → X1.1 (s + 16) j = X.1 (s + 16) j) ∧ (∀ k c, k < 20 → c < 9 → X1.1 (s + 16) (56 + (9 * k + c)) = X.1 (s + 16) (56 + (9 * k + (if c = 5 + i then 7 + i else if c = 7 + i then 5 + i else c)))) := by
  obtain ⟨n, S, e, w1, w2, w4, w3⟩ := up_loop (fun n (S : Mx) k => f_X5_changeChoicesAbout_23 k2 σ s (nI i) n S (nI k)) 20 (fun k S => S.2 = X.2 ∧ (∀ q, q ≠ s + 16 → S.1 q = X.1 q) ∧ (∀ j, (j < 56 ∨ 236 ≤ j) → S.1 (s + 16) j = X.1 (s + 16) j) ∧ (∀ k' c, k' < 20 → c < 9 → S.1 (s + 16) (56 + (9 * k' + c)) = if k' < k then X.1 (s + 16) (56 + (9 * k' + (if c = 5 + i then 7 + i else if c = 7 + i then 5 + i else c))) else X.1 (s + 16) (56 + (9 * k' + c)))) (by
    intro n k S hk ⟨h1, h2, h4, h3⟩
    refine ⟨swp S (s + 16) (56 + (9 * k + (5 + i))) (56 + (9 * k + (7 + i))), ?_, by rw [swp_2]; exact h1, fun q hq => by rw [swp_ne hq]; exact h2 q hq, fun j hj => ?_, fun k' c hk' hc => ?_⟩
    · show f_X5_changeChoicesAbout_23 k2 σ s (nI i) (n + 1) S (nI k) = f_X5_changeChoicesAbout_23 k2 σ s (nI i) n _ (nI (k + 1))
      rw [f_X5_changeChoicesAbout_23]
      simp only [litM]
      rw [if_neg (by rw [n_le (by omega) (by omega)]; omega), nI_add, nI_add, c_swc hs (id_cell k hk (5 + i) (by omega)).1 (id_cell k hk (7 + i) (by omega)).1 (by omega) (by omega), Option.bind_some, nI_add]
    · rw [swp_at, if_neg (by omega), if_neg (by omega)]
      exact h4 j hj
    · rw [swp_at]
      by_cases e : k' = k
      · subst e
        have lt : (k' < k' + 1) = True := eq_true (by omega)
        by_cases c7 : c = 7 + i
        · have := h3 k' (5 + i) hk' (by omega)
          simp only [Nat.lt_irrefl, if_false] at this
          simp only [show (56 + (9 * k' + c) = 56 + (9 * k' + (7 + i))) = True from eq_true (by omega), lt, show (c = 5 + i) = False from eq_false (by omega), show (c = 7 + i) = True from eq_true c7, if_true, if_false]
          exact this
        · by_cases c5 : c = 5 + i
          · have := h3 k' (7 + i) hk' (by omega)
            simp only [Nat.lt_irrefl, if_false] at this
            simp only [show (56 + (9 * k' + c) = 56 + (9 * k' + (7 + i))) = False from eq_false (by omega), show (56 + (9 * k' + c) = 56 + (9 * k' + (5 + i))) = True from eq_true (by omega), lt, show (c = 5 + i) = True from eq_true c5, if_true, if_false]
            exact this
          · have := h3 k' c hk' hc
            simp only [Nat.lt_irrefl, if_false] at this
            simp only [show (56 + (9 * k' + c) = 56 + (9 * k' + (7 + i))) = False from eq_false (by omega), show (56 + (9 * k' + c) = 56 + (9 * k' + (5 + i))) = False from eq_false (by omega), lt, show (c = 5 + i) = False from eq_false c5, show (c = 7 + i) = False from eq_false c7, if_true, if_false]
            exact this
      · have := h3 k' c hk' hc
        simp only [show (56 + (9 * k' + c) = 56 + (9 * k + (7 + i))) = False from eq_false (by omega), show (56 + (9 * k' + c) = 56 + (9 * k + (5 + i))) = False from eq_false (by omega), if_false, this]
        by_cases e2 : k' < k
        · rw [if_pos e2, if_pos (show k' < k + 1 by omega)]
        · rw [if_neg e2, if_neg (show ¬ k' < k + 1 by omega)]) FU 0 X (by omega) ⟨rfl, fun _ _ => rfl, fun _ _ => rfl, fun k' c _ _ => by rw [if_neg (by omega)]⟩ (by rw [FU_40000]; omega)
  refine ⟨S, ?_, w1, w2, w4, fun k c hk hc => by rw [w3 k c hk hc, if_pos hk]⟩
  refine Eq.trans e ?_
  show f_X5_changeChoicesAbout_23 k2 σ s (nI i) (n + 1) S (nI 20) = _
  rw [f_X5_changeChoicesAbout_23]
  refine Eq.trans (if_pos (Int32.le_refl _)) ?_
  simp only [litM, nI_add]
