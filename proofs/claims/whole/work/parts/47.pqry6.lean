theorem s_other {σ : Sh} {X : Mx} {a b f : Nat} (ha : tabOK σ a) (hb : tabOK σ b) (hf : f = 1 ∨ f = 2) : (if f = 1 then f_X6_countOtherNames σ X a b else f_X6_countOtherTypes σ X a b) = some (nI (cntB (fun c => bt (X.1 a 0) c && bt (X.1 b 0) c && decide (X.1 (a + f) c ≠ X.1 (b + f) c)) 9)) := by
  have ha' := ha
  have hb' := hb
  obtain ⟨u1, u2, u3, u4, u5, u6, u7, u8, u9, u10⟩ := ha
  obtain ⟨w1, w2, w3, w4, w5, w6, w7, w8, w9, w10⟩ := hb
  rcases hf with rfl | rfl
  · rw [if_pos rfl]
    unfold f_X6_countOtherNames
    rw [grd_t u1]
    have := cnt_loop (F := fun n x k => f_X6_countOtherNames_4 σ X a b n x (nI k)) (N := 9) (p := fun c => bt (X.1 a 0) c && bt (X.1 b 0) c && decide (X.1 (a + 1) c ≠ X.1 (b + 1) c)) (by
      intro n x k hk
      show f_X6_countOtherNames_4 σ X a b (n + 1) (nI x) (nI k) = _
      rw [f_X6_countOtherNames_4]
      simp (disch := first | assumption | omega) only [litM, grd_t, grd_T, ldI_t, stI_t, ldA_t, stA_t, lenA_t, n_lt_t, n_lt_f, n_le_t, n_le_f, n_eq_t, n_eq_f, if_true, if_false, nI_add, nI_mul, bt_d, bI_z, bI_o, Option.bind_some, Bool.true_eq_false, Bool.false_eq_true, ldR, eq_self, if_true, Option.bind_some, u1, u2, w1, w2, s_hasColumn ha', s_hasColumn hb', inB_n, f_X6_countOtherNames_44]
      cases bt (X.1 a 0) k
      · simp
      · cases bt (X.1 b 0) k
        · simp
        · by_cases e : X.1 (a + 1) k = X.1 (b + 1) k <;> simp [e]) (by
      intro n x
      show f_X6_countOtherNames_4 σ X a b (n + 1) (nI x) (nI 9) = _
      rw [f_X6_countOtherNames_4]; exact if_pos (Int32.le_refl _)) FU 0 (by omega) (by rw [FU_40000]; omega)
    exact this
  · rw [if_neg (by omega)]
    unfold f_X6_countOtherTypes
    rw [grd_t u1]
    have := cnt_loop (F := fun n x k => f_X6_countOtherTypes_4 σ X a b n x (nI k)) (N := 9) (p := fun c => bt (X.1 a 0) c && bt (X.1 b 0) c && decide (X.1 (a + 2) c ≠ X.1 (b + 2) c)) (by
      intro n x k hk
      show f_X6_countOtherTypes_4 σ X a b (n + 1) (nI x) (nI k) = _
      rw [f_X6_countOtherTypes_4]
      simp (disch := first | assumption | omega) only [litM, grd_t, grd_T, ldI_t, stI_t, ldA_t, stA_t, lenA_t, n_lt_t, n_lt_f, n_le_t, n_le_f, n_eq_t, n_eq_f, if_true, if_false, nI_add, nI_mul, bt_d, bI_z, bI_o, Option.bind_some, Bool.true_eq_false, Bool.false_eq_true, ldR, eq_self, if_true, Option.bind_some, u1, u3, w1, w3, s_hasColumn ha', s_hasColumn hb', inB_n, f_X6_countOtherTypes_44]
      cases bt (X.1 a 0) k
      · simp
      · cases bt (X.1 b 0) k
        · simp
        · by_cases e : X.1 (a + 2) k = X.1 (b + 2) k <;> simp [e]) (by
      intro n x
      show f_X6_countOtherTypes_4 σ X a b (n + 1) (nI x) (nI 9) = _
      rw [f_X6_countOtherTypes_4]; exact if_pos (Int32.le_refl _)) FU 0 (by omega) (by rw [FU_40000]; omega)
    exact this
theorem s10_changedColumns {τ : Sh} {Y : Mx} {m t f : Nat} (hm : mdOK τ m) (ht : t < 2) (hf : f = 2 ∨ f = 11) : f_X10_changedColumns τ Y m (nI t) (nI f) = some (nI (cntB (fun c => bt (Y.1 (m + 3) (0 + 200 * 2)) c && bt (Y.1 (m + 3) (0 + 200 * t)) c && decide (Y.1 (m + 3) (200 * t + f + c) ≠ Y.1 (m + 3) (400 + f + c))) 5)) := by
  unfold f_X10_changedColumns
  rw [grd_t hm.1]
  have c2 : ∀ c, c < 9 → f_X10_hasColumn τ Y m (nI 0) (nI 2) (nI c) = some (bI (bt (Y.1 (m + 3) (0 + 200 * 2)) c)) := fun c hc => by rw [s10_hasColumn hm (by omega) (by omega), inB_n hc (by omega)]
  have ct : ∀ c, c < 9 → f_X10_hasColumn τ Y m (nI 0) (nI t) (nI c) = some (bI (bt (Y.1 (m + 3) (0 + 200 * t)) c)) := fun c hc => by rw [s10_hasColumn hm (by omega) (by omega), inB_n hc (by omega)]
  have := cnt_loop (F := fun n x k => f_X10_changedColumns_5 τ Y m (nI t) (nI f) n x (nI k)) (N := 5) (p := fun c => bt (Y.1 (m + 3) (0 + 200 * 2)) c && bt (Y.1 (m + 3) (0 + 200 * t)) c && decide (Y.1 (m + 3) (200 * t + f + c) ≠ Y.1 (m + 3) (400 + f + c))) (by
    intro n x k hk
    show f_X10_changedColumns_5 τ Y m (nI t) (nI f) (n + 1) (nI x) (nI k) = _
    rw [f_X10_changedColumns_5]
    obtain ⟨m0, m1, m2, m3, m4, m5, m6, m7, m8, m9, m10, m11, m12, m13, m14, m15, m16, m17, mq1, mq2, mq3, mq4, mq5, mq6, mq7, mq8, mq9, mq10, mq11, mq12, mq13, mq14, mq15, mq16, mq17, mn1, mn2, mn3, mn4, mn5, mn6, mn7, mn8, mn9, mn10, mn11, mn12, mn13, mn14, mn15, mn16, mn17⟩ := hm
    have hf2 : f ≤ 11 := by omega
    simp (disch := first | assumption | omega) only [litM, n_le_f, if_false, nI_add, nI_mul, f_X10_changedColumns_69, f_X10_changedColumns_70, c2, ct, Option.bind_some, bI_z, ldR, eq_self, if_true, Option.bind_some, m0, m3, ldA_t]
    cases bt (Y.1 (m + 3) (0 + 200 * 2)) k
    · simp
    · cases bt (Y.1 (m + 3) (0 + 200 * t)) k
      · simp
      · by_cases e : Y.1 (m + 3) (200 * t + f + k) = Y.1 (m + 3) (400 + f + k)
        · simp [e]
        · simp [e]) (by
    intro n x
    show f_X10_changedColumns_5 τ Y m (nI t) (nI f) (n + 1) (nI x) (nI 5) = _
    rw [f_X10_changedColumns_5]; exact if_pos (Int32.le_refl _)) FU 0 (by omega) (by rw [FU_40000]; omega)
  exact this
/-- a sum over rows of nine that has nothing behind the fifth, and one over rows of five -/
theorem cntB_95 {p : Nat → Nat → Bool} (h : ∀ k c, k < 20 → 5 ≤ c → c < 9 → p k c = false) : cntB (fun j => p (j / 9) (j % 9)) (9 * 20) = cntB (fun j => p (j / 5) (j % 5)) (5 * 20) := by
  have row : ∀ k, k ≤ 20 → cntB (fun j => p (j / 9) (j % 9)) (9 * k) = cntB (fun j => p (j / 5) (j % 5)) (5 * k) := by
    intro k
    induction k with
    | zero => intro _; rfl
    | succ k ih =>
      intro hk
      have e9 : ∀ c, c < 9 → (9 * k + c) / 9 = k ∧ (9 * k + c) % 9 = c := fun c hc => by omega
      have e5 : ∀ c, c < 5 → (5 * k + c) / 5 = k ∧ (5 * k + c) % 5 = c := fun c hc => by omega
      have i9 : cntB (fun j => p (j / 9) (j % 9)) (9 * (k + 1)) = cntB (fun j => p (j / 9) (j % 9)) (9 * k) + (if p k 0 = true then 1 else 0) + (if p k 1 = true then 1 else 0) + (if p k 2 = true then 1 else 0) + (if p k 3 = true then 1 else 0) + (if p k 4 = true then 1 else 0) := by
        rw [show 9 * (k + 1) = 9 * k + 0 + 1 + 1 + 1 + 1 + 1 + 1 + 1 + 1 + 1 by omega]
        have a1 := e9 1 (by omega); have a2 := e9 2 (by omega); have a3 := e9 3 (by omega); have a4 := e9 4 (by omega)
        have a5 := e9 5 (by omega); have a6 := e9 6 (by omega); have a7 := e9 7 (by omega); have a8 := e9 8 (by omega)
        simp only [cntB, show 9 * k / 9 = k by omega, show 9 * k % 9 = 0 by omega, a1.1, a1.2, a2.1, a2.2, a3.1, a3.2, a4.1, a4.2, a5.1, a5.2, a6.1, a6.2, a7.1, a7.2, a8.1, a8.2, h k 5 (by omega) (by omega) (by omega), h k 6 (by omega) (by omega) (by omega), h k 7 (by omega) (by omega) (by omega), h k 8 (by omega) (by omega) (by omega), Bool.false_eq_true, if_false, Nat.add_zero]
      have i5 : cntB (fun j => p (j / 5) (j % 5)) (5 * (k + 1)) = cntB (fun j => p (j / 5) (j % 5)) (5 * k) + (if p k 0 = true then 1 else 0) + (if p k 1 = true then 1 else 0) + (if p k 2 = true then 1 else 0) + (if p k 3 = true then 1 else 0) + (if p k 4 = true then 1 else 0) := by
        rw [show 5 * (k + 1) = 5 * k + 0 + 1 + 1 + 1 + 1 + 1 by omega]
        have a1 := e5 1 (by omega); have a2 := e5 2 (by omega); have a3 := e5 3 (by omega); have a4 := e5 4 (by omega)
        simp only [cntB, show 5 * k / 5 = k by omega, show 5 * k % 5 = 0 by omega, a1.1, a1.2, a2.1, a2.2, a3.1, a3.2, a4.1, a4.2]
      rw [i9, i5, ih (by omega)]
  exact row 20 (by omega)
theorem cntB_9_5 {p : Nat → Bool} (h : ∀ c, 5 ≤ c → c < 9 → p c = false) : cntB p 9 = cntB p 5 := by
  simp only [cntB]
  rw [h 5 (by omega) (by omega), h 6 (by omega) (by omega), h 7 (by omega) (by omega), h 8 (by omega) (by omega)]
  simp
theorem low_andn {n : Nat} {w v : Int32} (h : low n w) : low n (w &&& (v ^^^ (-(nI 1)))) := fun d hd => by
  have := h d hd
  unfold bt at this ⊢
  rw [Int32.toBitVec_and, BitVec.getLsbD_and, this]; rfl
