/-! ===== counting ===== -/
theorem cnt_loop {F : Nat → Int32 → Nat → Option Int32} {N : Nat} {p : Nat → Bool} (step : ∀ n x k, k < N → F (n + 1) (nI x) k = F n (nI (x + if p k = true then 1 else 0)) (k + 1)) (stop : ∀ n x, F (n + 1) (nI x) N = some (nI x)) : ∀ n k, k ≤ N → N < n + k → F n (nI (cntB p k)) k = some (nI (cntB p N)) := by
  intro n
  induction n with
  | zero => intro k h1 h2; omega
  | succ n ih =>
    intro k h1 h2
    by_cases e : k = N
    · subst e; exact stop n _
    · rw [step n _ k (by omega)]
      have := ih (k + 1) (by omega) (by omega)
      rw [show cntB p (k + 1) = cntB p k + (if p k = true then 1 else 0) from rfl] at this
      exact this
/-- the same, row by row -/
theorem cnt_loop2 {F : Nat → Int32 → Nat → Option Int32} {G : Nat → Nat → Nat → Int32 → Nat → Option Int32} {K C : Nat} {p : Nat → Nat → Bool} (outer : ∀ n x k, k < K → F (n + 1) (nI x) k = G n k FU (nI x) 0) (inner : ∀ n k i x c, k < K → c < C → G n k (i + 1) (nI x) c = G n k i (nI (x + if p k c = true then 1 else 0)) (c + 1)) (iend : ∀ n k i x, k < K → G n k (i + 1) (nI x) C = F n (nI x) (k + 1)) (stop : ∀ n x, F (n + 1) (nI x) K = some (nI x)) (hC : 0 < C) (hC2 : C < FU) : ∀ n k, k ≤ K → K < n + k → F n (nI (cntB (fun j => p (j / C) (j % C)) (C * k))) k = some (nI (cntB (fun j => p (j / C) (j % C)) (C * K))) := by
  have row : ∀ n k, k < K → ∀ i c, c ≤ C → C < i + c → G n k i (nI (cntB (fun j => p (j / C) (j % C)) (C * k + c))) c = F n (nI (cntB (fun j => p (j / C) (j % C)) (C * k + C))) (k + 1) := by
    intro n k hk i
    induction i with
    | zero => intro c h1 h2; omega
    | succ i ih =>
      intro c h1 h2
      by_cases e : c = C
      · subst e; exact iend n k i _ hk
      · rw [inner n k i _ c hk (by omega)]
        have e1 : (C * k + c) / C = k := by rw [Nat.mul_add_div (by omega), Nat.div_eq_of_lt (by omega), Nat.add_zero]
        have e2 : (C * k + c) % C = c := by rw [Nat.mul_add_mod]; exact Nat.mod_eq_of_lt (by omega)
        have := ih (c + 1) (by omega) (by omega)
        rw [show C * k + (c + 1) = C * k + c + 1 from rfl, cntB] at this
        simp only [e1, e2] at this
        exact this
  intro n
  induction n with
  | zero => intro k h1 h2; omega
  | succ n ih =>
    intro k h1 h2
    by_cases e : k = K
    · subst e; exact stop n _
    · rw [outer n _ k (by omega)]
      have := row n k (by omega) FU 0 (by omega) (by omega)
      rw [Nat.add_zero] at this
      rw [this, ← Nat.mul_succ]
      exact ih (k + 1) (by omega) (by omega)
theorem s_countChoices {σ : Sh} {X : Mx} {s L R : Nat} (hs : stOK σ s L R) : f_X5_countChoices σ X s = some (nI (cntB (fun j => decide (X.1 (s + 16) j ≠ -(nI 1))) 316)) := by
  unfold f_X5_countChoices
  rw [grd_t hs.1]
  obtain ⟨s0, s1, s2, s3, s4, s5, s6, s7, s8, s9, s10, s11, s12, s13, s14, s15, s16, s17, s18⟩ := hs
  obtain ⟨s17, s19⟩ := s17
  have := cnt_loop (F := fun n x k => f_X5_countChoices_4 σ X s n x (nI k)) (N := 316) (p := fun j => decide (X.1 (s + 16) j ≠ -(nI 1))) (by
    intro n x k hk
    show f_X5_countChoices_4 σ X s (n + 1) (nI x) (nI k) = _
    rw [f_X5_countChoices_4]
    simp (disch := first | assumption | omega) only [litM, grd_t, grd_T, ldI_t, stI_t, ldA_t, stA_t, lenA_t, n_lt_t, n_lt_f, n_le_t, n_le_f, n_eq_t, n_eq_f, if_true, if_false, nI_add, nI_mul, bt_d, bI_z, bI_o, Option.bind_some, Bool.true_eq_false, Bool.false_eq_true, ldR, eq_self, if_true, Option.bind_some, s0, s7, f_X5_countChoices_24]
    by_cases e : X.1 (s + 16) k = -(nI 1)
    · simp [e]
    · simp [e]) (by
    intro n x
    show f_X5_countChoices_4 σ X s (n + 1) (nI x) (nI 316) = _
    rw [f_X5_countChoices_4]; exact if_pos (Int32.le_refl _)) FU 0 (by omega) (by rw [FU_40000]; omega)
  exact this
theorem s10_choicesThere {τ : Sh} {Y : Mx} {m : Nat} (hm : mdOK τ m) : f_X10_choicesThere τ Y m = some (nI (cntB (fun j => decide (Y.1 (m + 3) (615 + j) ≠ -(nI 1))) 316)) := by
  unfold f_X10_choicesThere
  rw [grd_t hm.1]
  obtain ⟨m0, m1, m2, m3, m4, m5, m6, m7, m8, m9, m10, m11, m12, m13, m14, m15, m16, m17, mq1, mq2, mq3, mq4, mq5, mq6, mq7, mq8, mq9, mq10, mq11, mq12, mq13, mq14, mq15, mq16, mq17, mn1, mn2, mn3, mn4, mn5, mn6, mn7, mn8, mn9, mn10, mn11, mn12, mn13, mn14, mn15, mn16, mn17⟩ := hm
  have := cnt_loop (F := fun n x k => f_X10_choicesThere_4 τ Y m n x (nI k)) (N := 316) (p := fun j => decide (Y.1 (m + 3) (615 + j) ≠ -(nI 1))) (by
    intro n x k hk
    show f_X10_choicesThere_4 τ Y m (n + 1) (nI x) (nI k) = _
    rw [f_X10_choicesThere_4]
    simp (disch := first | assumption | omega) only [litM, grd_t, grd_T, ldI_t, stI_t, ldA_t, stA_t, lenA_t, n_lt_t, n_lt_f, n_le_t, n_le_f, n_eq_t, n_eq_f, if_true, if_false, nI_add, nI_mul, bt_d, bI_z, bI_o, Option.bind_some, Bool.true_eq_false, Bool.false_eq_true, ldR, eq_self, if_true, Option.bind_some, m0, m3, f_X10_choicesThere_31]
    by_cases e : Y.1 (m + 3) (615 + k) = -(nI 1)
    · simp [e]
    · simp [e]) (by
    intro n x
    show f_X10_choicesThere_4 τ Y m (n + 1) (nI x) (nI 316) = _
    rw [f_X10_choicesThere_4]; exact if_pos (Int32.le_refl _)) FU 0 (by omega) (by rw [FU_40000]; omega)
  exact this
theorem s10_choicesWaiting {τ : Sh} {Y : Mx} {m : Nat} (hm : mdOK τ m) : f_X10_choicesWaiting τ Y m = some (nI (cntB (fun j => decide (Y.1 (m + 3) (615 + j) ≠ -(nI 1)) && !decide (Y.1 (m + 11) j = nI 1)) 316)) := by
  unfold f_X10_choicesWaiting
  rw [grd_t hm.1]
  obtain ⟨m0, m1, m2, m3, m4, m5, m6, m7, m8, m9, m10, m11, m12, m13, m14, m15, m16, m17, mq1, mq2, mq3, mq4, mq5, mq6, mq7, mq8, mq9, mq10, mq11, mq12, mq13, mq14, mq15, mq16, mq17, mn1, mn2, mn3, mn4, mn5, mn6, mn7, mn8, mn9, mn10, mn11, mn12, mn13, mn14, mn15, mn16, mn17⟩ := hm
  have := cnt_loop (F := fun n x k => f_X10_choicesWaiting_4 τ Y m n x (nI k)) (N := 316) (p := fun j => decide (Y.1 (m + 3) (615 + j) ≠ -(nI 1)) && !decide (Y.1 (m + 11) j = nI 1)) (by
    intro n x k hk
    show f_X10_choicesWaiting_4 τ Y m (n + 1) (nI x) (nI k) = _
    rw [f_X10_choicesWaiting_4]
    simp (disch := first | assumption | omega) only [litM, grd_t, grd_T, ldI_t, stI_t, ldA_t, stA_t, lenA_t, n_lt_t, n_lt_f, n_le_t, n_le_f, n_eq_t, n_eq_f, if_true, if_false, nI_add, nI_mul, bt_d, bI_z, bI_o, Option.bind_some, Bool.true_eq_false, Bool.false_eq_true, ldR, eq_self, if_true, Option.bind_some, m0, m3, m11, f_X10_choicesWaiting_36, f_X10_choicesWaiting_41]
    by_cases e : Y.1 (m + 3) (615 + k) = -(nI 1)
    · simp [e]
    · by_cases e2 : Y.1 (m + 11) k = nI 1
      · simp [e, e2]
      · simp [e, e2]) (by
    intro n x
    show f_X10_choicesWaiting_4 τ Y m (n + 1) (nI x) (nI 316) = _
    rw [f_X10_choicesWaiting_4]; exact if_pos (Int32.le_refl _)) FU 0 (by omega) (by rw [FU_40000]; omega)
  exact this
theorem cntB_split (p q : Nat → Bool) (n : Nat) : cntB p n = cntB (fun j => p j && q j) n + cntB (fun j => p j && !q j) n := by
  induction n with
  | zero => rfl
  | succ n ih => rw [cntB, cntB, cntB, ih]; cases p n <;> cases q n <;> simp <;> omega
theorem s_countFull {σ : Sh} {X : Mx} {a : Nat} (h : tabOK σ a) : f_X6_countFull σ X a = some (nI (cntB (fun j => decide (X.1 (a + 3) j ≠ nI 9999)) 180)) := by
  unfold f_X6_countFull
  obtain ⟨h1, h2, h3, h4, h5, h6, h7, h8, h9, h10⟩ := h
  rw [grd_t h1]
  have := cnt_loop (F := fun n x k => f_X6_countFull_4 σ X a n x (nI k)) (N := 180) (p := fun j => decide (X.1 (a + 3) j ≠ nI 9999)) (by
    intro n x k hk
    show f_X6_countFull_4 σ X a (n + 1) (nI x) (nI k) = _
    rw [f_X6_countFull_4]
    simp (disch := first | assumption | omega) only [litM, grd_t, grd_T, ldI_t, stI_t, ldA_t, stA_t, lenA_t, n_lt_t, n_lt_f, n_le_t, n_le_f, n_eq_t, n_eq_f, if_true, if_false, nI_add, nI_mul, bt_d, bI_z, bI_o, Option.bind_some, Bool.true_eq_false, Bool.false_eq_true, ldR, eq_self, if_true, Option.bind_some, h1, h4, f_X6_countFull_26]
    by_cases e : X.1 (a + 3) k = nI 9999
    · simp [e]
    · simp [e]) (by
    intro n x
    show f_X6_countFull_4 σ X a (n + 1) (nI x) (nI 180) = _
    rw [f_X6_countFull_4]; exact if_pos (Int32.le_refl _)) FU 0 (by omega) (by rw [FU_40000]; omega)
  exact this
theorem s10_filled {τ : Sh} {Y : Mx} {m : Nat} (hm : mdOK τ m) : f_X10_filled τ Y m = some (nI (cntB (fun j => bt (Y.1 m 21) (j / 9) && bt (Y.1 m 20) (j % 9) && decide (Y.1 (m + 7) (9 * (j / 9) + j % 9) ≠ nI 9999)) (9 * 20))) := by
  unfold f_X10_filled
  have m0 := hm.1
  rw [grd_t m0]
  have := cnt_loop2 (F := fun n x k => f_X10_filled_4 τ Y m n x (nI k)) (G := fun n k i x c => f_X10_filled_12 (f_X10_filled_4 τ Y m n) τ Y m (nI k) i x (nI c)) (K := 20) (C := 9) (p := fun k c => bt (Y.1 m 21) k && bt (Y.1 m 20) c && decide (Y.1 (m + 7) (9 * k + c) ≠ nI 9999)) (by
    intro n x k hk
    show f_X10_filled_4 τ Y m (n + 1) (nI x) (nI k) = _
    rw [f_X10_filled_4]
    simp (disch := first | assumption | omega) only [litM, grd_t, grd_T, ldI_t, stI_t, ldA_t, stA_t, lenA_t, n_lt_t, n_lt_f, n_le_t, n_le_f, n_eq_t, n_eq_f, if_true, if_false, nI_add, nI_mul, bt_d, bI_z, bI_o, Option.bind_some, Bool.true_eq_false, Bool.false_eq_true]) (by
    intro n k i x c hk hc
    show f_X10_filled_12 (f_X10_filled_4 τ Y m n) τ Y m (nI k) (i + 1) (nI x) (nI c) = _
    rw [f_X10_filled_12]
    simp (disch := first | assumption | omega) only [litM, grd_t, grd_T, ldI_t, stI_t, ldA_t, stA_t, lenA_t, n_lt_t, n_lt_f, n_le_t, n_le_f, n_eq_t, n_eq_f, if_true, if_false, nI_add, nI_mul, bt_d, bI_z, bI_o, Option.bind_some, Bool.true_eq_false, Bool.false_eq_true, s10_mergedAt hm, f_X10_filled_60, f_X10_filled_62]
    cases bt (Y.1 m 21) k
    · simp
    · cases bt (Y.1 m 20) c
      · simp
      · by_cases e : Y.1 (m + 7) (9 * k + c) = nI 9999
        · simp [e]
        · simp [e]) (by
    intro n k i x hk
    show f_X10_filled_12 (f_X10_filled_4 τ Y m n) τ Y m (nI k) (i + 1) (nI x) (nI 9) = _
    rw [f_X10_filled_12]
    simp (disch := first | assumption | omega) only [litM, grd_t, grd_T, ldI_t, stI_t, ldA_t, stA_t, lenA_t, n_lt_t, n_lt_f, n_le_t, n_le_f, n_eq_t, n_eq_f, if_true, if_false, nI_add, nI_mul, bt_d, bI_z, bI_o, Option.bind_some, Bool.true_eq_false, Bool.false_eq_true]) (by
    intro n x
    show f_X10_filled_4 τ Y m (n + 1) (nI x) (nI 20) = _
    rw [f_X10_filled_4]; exact if_pos (Int32.le_refl _)) (by omega) (by rw [FU_40000]; omega) FU 0 (by omega) (by rw [FU_40000]; omega)
  exact this
