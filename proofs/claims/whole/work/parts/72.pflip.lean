/-! ===== flip: a Table's added columns change places ===== -/
def flp (c : Nat) : Nat := if c < 5 then c else if c < 7 then c + 2 else if c < 9 then c - 2 else c
def swp (X : Mx) (b p q : Nat) : Mx := sI (sI X b p (X.1 b q)) b q (X.1 b p)
theorem s_swap {σ : Sh} {X : Mx} {b p q N : Nat} (hb : shK σ b = 10) (hN : shN σ b = N) (hN2 : N < 30000) (hp : p < N) (hq : q < N) : f_X6_swap σ X b (nI p) (nI q) = some (swp X b p q) := by
  unfold f_X6_swap
  simp only [litM]
  rw [if_neg (by rw [n_lt (by omega) (by omega)]; omega), if_neg (by rw [n_lt (by omega) (by omega)]; omega), lenA_t hb, hN, if_neg (by rw [n_le (by omega) (by omega)]; omega), lenA_t hb, hN, if_pos (by rw [n_lt (by omega) (by omega)]; omega), ldA_t hb (by omega) (by omega), ldA_t hb (by omega) (by omega), stA_t hb (by omega) (by omega), stA_t hb (by omega) (by omega)]
  rfl
theorem swp_ne {X : Mx} {b p q c : Nat} (h : c ≠ b) : (swp X b p q).1 c = X.1 c := by
  unfold swp; rw [sI_ne h, sI_ne h]
theorem swp_2 {X : Mx} {b p q : Nat} : (swp X b p q).2 = X.2 := rfl
theorem swp_at {X : Mx} {b p q j : Nat} : (swp X b p q).1 b j = if j = q then X.1 b p else if j = p then X.1 b q else X.1 b j := by
  unfold swp
  by_cases h1 : j = q
  · rw [h1, sI_eq, if_pos rfl]
  · rw [sI_nk h1, if_neg h1]
    by_cases h2 : j = p
    · rw [h2, sI_eq, if_pos rfl]
    · rw [sI_nk h2, if_neg h2]
/-- one pair of columns, all rows -/
theorem c_ren37 {σ : Sh} {X : Mx} {t i : Nat} {k2 : Mx → Int32 → Option Mx} (ht : tabOK σ t) (hi : i < 2) : ∃ X1, f_X6_renumberAdded_37 k2 σ t (nI i) (nI (5 + i)) (nI (7 + i)) FU X (nI 0) = k2 X1 (nI (i + 1)) ∧ X1.2 = X.2 ∧ (∀ q, q ≠ t + 3 → X1.1 q = X.1 q) ∧ (∀ k c, k < 20 → c < 9 → X1.1 (t + 3) (9 * k + c) = X.1 (t + 3) (9 * k + (if c = 5 + i then 7 + i else if c = 7 + i then 5 + i else c))) := by
  obtain ⟨n, s, e, w1, w2, w3⟩ := up_loop (fun n (s : Mx) k => f_X6_renumberAdded_37 k2 σ t (nI i) (nI (5 + i)) (nI (7 + i)) n s (nI k)) 20 (fun k s => s.2 = X.2 ∧ (∀ q, q ≠ t + 3 → s.1 q = X.1 q) ∧ (∀ k' c, k' < 20 → c < 9 → s.1 (t + 3) (9 * k' + c) = if k' < k then X.1 (t + 3) (9 * k' + (if c = 5 + i then 7 + i else if c = 7 + i then 5 + i else c)) else X.1 (t + 3) (9 * k' + c))) (by
    intro n k s hk ⟨h1, h2, h3⟩
    refine ⟨swp s (t + 3) (k * 9 + (5 + i)) (k * 9 + (7 + i)), ?_, by rw [swp_2]; exact h1, fun q hq => by rw [swp_ne hq]; exact h2 q hq, fun k' c hk' hc => ?_⟩
    · show f_X6_renumberAdded_37 k2 σ t (nI i) (nI (5 + i)) (nI (7 + i)) (n + 1) s (nI k) = f_X6_renumberAdded_37 k2 σ t (nI i) (nI (5 + i)) (nI (7 + i)) n _ (nI (k + 1))
      rw [f_X6_renumberAdded_37]
      obtain ⟨h1, h2, h3, h4, h5, h6, h7, h8, h9, h10⟩ := ht
      simp only [litM]
      rw [if_neg (by rw [n_le (by omega) (by omega)]; omega)]
      simp only [ldR, h1, h2, h3, h4, if_true, Option.bind_some]
      rw [nI_mul, nI_add, nI_add, s_swap h9 h10 (by omega) (by omega) (by omega), Option.bind_some, nI_add]
    · rw [swp_at]
      by_cases e : k' = k
      · subst e
        have lt : (k' < k' + 1) = True := eq_true (by omega)
        by_cases c7 : c = 7 + i
        · have := h3 k' (5 + i) hk' (by omega)
          simp only [Nat.lt_irrefl, if_false] at this
          simp only [show (9 * k' + c = k' * 9 + (7 + i)) = True from eq_true (by omega), lt, show (c = 5 + i) = False from eq_false (by omega), show (c = 7 + i) = True from eq_true c7, if_true, if_false]
          rw [Nat.mul_comm k' 9]
          exact this
        · by_cases c5 : c = 5 + i
          · have := h3 k' (7 + i) hk' (by omega)
            simp only [Nat.lt_irrefl, if_false] at this
            simp only [show (9 * k' + c = k' * 9 + (7 + i)) = False from eq_false (by omega), show (9 * k' + c = k' * 9 + (5 + i)) = True from eq_true (by omega), lt, show (c = 5 + i) = True from eq_true c5, if_true, if_false]
            rw [Nat.mul_comm k' 9]
            exact this
          · have := h3 k' c hk' hc
            simp only [Nat.lt_irrefl, if_false] at this
            simp only [show (9 * k' + c = k' * 9 + (7 + i)) = False from eq_false (by omega), show (9 * k' + c = k' * 9 + (5 + i)) = False from eq_false (by omega), lt, show (c = 5 + i) = False from eq_false c5, show (c = 7 + i) = False from eq_false c7, if_true, if_false]
            exact this
      · have := h3 k' c hk' hc
        simp only [show (9 * k' + c = k * 9 + (7 + i)) = False from eq_false (by omega), show (9 * k' + c = k * 9 + (5 + i)) = False from eq_false (by omega), if_false, this]
        by_cases e2 : k' < k
        · rw [if_pos e2, if_pos (show k' < k + 1 by omega)]
        · rw [if_neg e2, if_neg (show ¬ k' < k + 1 by omega)]) FU 0 X (by omega) ⟨rfl, fun _ _ => rfl, fun k' c _ _ => by rw [if_neg (by omega)]⟩ (by rw [FU_40000]; omega)
  refine ⟨s, ?_, w1, w2, fun k c hk hc => by rw [w3 k c hk hc, if_pos hk]⟩
  refine Eq.trans e ?_
  show f_X6_renumberAdded_37 k2 σ t (nI i) (nI (5 + i)) (nI (7 + i)) (n + 1) s (nI 20) = _
  rw [f_X6_renumberAdded_37]
  refine Eq.trans (if_pos (Int32.le_refl _)) ?_
  simp only [litM, nI_add]
