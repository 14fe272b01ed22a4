/-- the reference's object at m, its rows behind it -/
def mdOK (σ : Sh) (m : Nat) : Prop := shK σ m = 8 ∧ shR σ m 1 = some (m + 1) ∧ shR σ m 5 = some (m + 2) ∧ shR σ m 17 = some (m + 3) ∧ shR σ m 18 = some (m + 4) ∧ shR σ m 23 = some (m + 5) ∧ shR σ m 24 = some (m + 6) ∧ shR σ m 25 = some (m + 7) ∧ shR σ m 26 = some (m + 8) ∧ shR σ m 27 = some (m + 9) ∧ shR σ m 28 = some (m + 10) ∧ shR σ m 29 = some (m + 11) ∧ shR σ m 30 = some (m + 12) ∧ shR σ m 31 = some (m + 13) ∧ shR σ m 33 = some (m + 14) ∧ shR σ m 38 = some (m + 15) ∧ shR σ m 39 = some (m + 16) ∧ shR σ m 40 = some (m + 17) ∧
  shK σ (m + 1) = 10 ∧ shK σ (m + 2) = 10 ∧ shK σ (m + 3) = 10 ∧ shK σ (m + 4) = 10 ∧ shK σ (m + 5) = 10 ∧ shK σ (m + 6) = 10 ∧ shK σ (m + 7) = 10 ∧ shK σ (m + 8) = 10 ∧ shK σ (m + 9) = 10 ∧ shK σ (m + 10) = 10 ∧ shK σ (m + 11) = 10 ∧ shK σ (m + 12) = 10 ∧ shK σ (m + 13) = 10 ∧ shK σ (m + 14) = 10 ∧ shK σ (m + 15) = 10 ∧ shK σ (m + 16) = 10 ∧ shK σ (m + 17) = 10 ∧
  shN σ (m + 1) = 700 ∧ shN σ (m + 2) = 3 ∧ shN σ (m + 3) = 1862 ∧ shN σ (m + 4) = 27930 ∧ shN σ (m + 5) = 9 ∧ shN σ (m + 6) = 9 ∧ shN σ (m + 7) = 180 ∧ shN σ (m + 8) = 180 ∧ shN σ (m + 9) = 18 ∧ shN σ (m + 10) = 2000 ∧ shN σ (m + 11) = 316 ∧ shN σ (m + 12) = 9 ∧ shN σ (m + 13) = 10 ∧ shN σ (m + 14) = 24 ∧ shN σ (m + 15) = 931 ∧ shN σ (m + 16) = 27930 ∧ shN σ (m + 17) = 24
theorem n_nlt {x : Int32} {n : Nat} (h : nI (n + 1) ≤ x) (hn : n + 1 < 2 ^ 31) : (nI n < x) = True := by
  refine eq_true ?_
  rw [Int32.lt_iff_toInt_lt, nI_toInt (by omega)]
  have := Int32.le_iff_toInt_le.mp h
  rw [nI_toInt hn] at this
  omega
theorem s_within {x : Int32} {n : Nat} (hn : n + 1 < 2 ^ 31) : f_X10_within x (nI 0) (nI n) = bI (decide (¬ x < nI 0 ∧ ¬ nI (n + 1) ≤ x)) := by
  unfold f_X10_within
  rcases i32_cases x (n + 1) hn with ⟨k, hk, rfl⟩ | hk | ⟨hk, hk2⟩
  · simp (disch := first | assumption | omega) only [litN, grd_t, grd_T, ldI_t, stI_t, ldA_t, stA_t, lenA_t, n_lt_t, n_lt_f, n_le_t, n_le_f, n_eq_t, n_eq_f, if_true, if_false, nI_add, nI_mul, bt_d, bI_z, bI_o, Option.bind_some, Bool.true_eq_false, Bool.false_eq_true, not_false_eq_true, and_self, decide_true, bI_t]
  · simp [hk]; rfl
  · simp (disch := first | assumption | omega) only [litN, grd_t, grd_T, ldI_t, stI_t, ldA_t, stA_t, lenA_t, n_lt_t, n_lt_f, n_le_t, n_le_f, n_eq_t, n_eq_f, if_true, if_false, nI_add, nI_mul, bt_d, bI_z, bI_o, Option.bind_some, Bool.true_eq_false, Bool.false_eq_true, n_nlt, hk, hk2, not_false_eq_true, not_true, and_false, decide_false, bI_f]
theorem s10_hasColumn {σ : Sh} {Y : Mx} {m b t : Nat} {x : Int32} (h : mdOK σ m) (hb : b ≤ 931) (ht : t < 3) : f_X10_hasColumn σ Y m (nI b) (nI t) x = some (bI (inB 9 (Y.1 (m + 3) (b + 200 * t)) x)) := by
  obtain ⟨m0, m1, m2, m3, m4, m5, m6, m7, m8, m9, m10, m11, m12, m13, m14, m15, m16, m17, q1, q2, q3, q4, q5, q6, q7, q8, q9, q10, q11, q12, q13, q14, q15, q16, q17, n1, n2, n3, n4, n5, n6, n7, n8, n9, n10, n11, n12, n13, n14, n15, n16, n17⟩ := h
  rcases i32_cases x 9 (by omega) with ⟨k, hk, rfl⟩ | hk | ⟨hk, hk2⟩
  · simp (disch := first | assumption | omega) only [f_X10_hasColumn, litN, grd_t, grd_T, ldI_t, stI_t, ldA_t, stA_t, lenA_t, n_lt_t, n_lt_f, n_le_t, n_le_f, n_eq_t, n_eq_f, if_true, if_false, nI_add, nI_mul, bt_d, bI_z, bI_o, Option.bind_some, Bool.true_eq_false, Bool.false_eq_true, inB_n, bI_itf, s_within, ldR, m0, m3, Nat.add_zero, not_false_eq_true, and_self, decide_true]
  · simp (disch := first | assumption | omega) only [f_X10_hasColumn, litN, grd_t, grd_T, ldI_t, stI_t, ldA_t, stA_t, lenA_t, n_lt_t, n_lt_f, n_le_t, n_le_f, n_eq_t, n_eq_f, if_true, if_false, nI_add, nI_mul, bt_d, bI_z, bI_o, Option.bind_some, Bool.true_eq_false, Bool.false_eq_true, inB_lo, s_within, hk, not_true, false_and, decide_false, bI_f]
  · simp (disch := first | assumption | omega) only [f_X10_hasColumn, litN, grd_t, grd_T, ldI_t, stI_t, ldA_t, stA_t, lenA_t, n_lt_t, n_lt_f, n_le_t, n_le_f, n_eq_t, n_eq_f, if_true, if_false, nI_add, nI_mul, bt_d, bI_z, bI_o, Option.bind_some, Bool.true_eq_false, Bool.false_eq_true, inB_hi, s_within, hk, hk2, not_true, and_false, decide_false, bI_f]
theorem s10_hasRow {σ : Sh} {Y : Mx} {m b t : Nat} {x : Int32} (h : mdOK σ m) (hb : b ≤ 931) (ht : t < 3) : f_X10_hasRow σ Y m (nI b) (nI t) x = some (bI (inB 20 (Y.1 (m + 3) (b + 200 * t + 1)) x)) := by
  obtain ⟨m0, m1, m2, m3, m4, m5, m6, m7, m8, m9, m10, m11, m12, m13, m14, m15, m16, m17, q1, q2, q3, q4, q5, q6, q7, q8, q9, q10, q11, q12, q13, q14, q15, q16, q17, n1, n2, n3, n4, n5, n6, n7, n8, n9, n10, n11, n12, n13, n14, n15, n16, n17⟩ := h
  rcases i32_cases x 20 (by omega) with ⟨k, hk, rfl⟩ | hk | ⟨hk, hk2⟩
  · simp (disch := first | assumption | omega) only [f_X10_hasRow, litN, grd_t, grd_T, ldI_t, stI_t, ldA_t, stA_t, lenA_t, n_lt_t, n_lt_f, n_le_t, n_le_f, n_eq_t, n_eq_f, if_true, if_false, nI_add, nI_mul, bt_d, bI_z, bI_o, Option.bind_some, Bool.true_eq_false, Bool.false_eq_true, inB_n, bI_itf, s_within, ldR, m0, m3, not_false_eq_true, and_self, decide_true]
  · simp (disch := first | assumption | omega) only [f_X10_hasRow, litN, grd_t, grd_T, ldI_t, stI_t, ldA_t, stA_t, lenA_t, n_lt_t, n_lt_f, n_le_t, n_le_f, n_eq_t, n_eq_f, if_true, if_false, nI_add, nI_mul, bt_d, bI_z, bI_o, Option.bind_some, Bool.true_eq_false, Bool.false_eq_true, inB_lo, s_within, hk, not_true, false_and, decide_false, bI_f]
  · simp (disch := first | assumption | omega) only [f_X10_hasRow, litN, grd_t, grd_T, ldI_t, stI_t, ldA_t, stA_t, lenA_t, n_lt_t, n_lt_f, n_le_t, n_le_f, n_eq_t, n_eq_f, if_true, if_false, nI_add, nI_mul, bt_d, bI_z, bI_o, Option.bind_some, Bool.true_eq_false, Bool.false_eq_true, inB_hi, s_within, hk, hk2, not_true, and_false, decide_false, bI_f]
theorem s10_nameAt {σ : Sh} {Y : Mx} {m b t c : Nat} (h : mdOK σ m) (hb : b ≤ 931) (ht : t < 3) (hc : c < 9) : f_X10_nameAt σ Y m (nI b) (nI t) (nI c) = some (Y.1 (m + 3) (b + 200 * t + 2 + c)) := by
  obtain ⟨m0, m1, m2, m3, m4, m5, m6, m7, m8, m9, m10, m11, m12, m13, m14, m15, m16, m17, q1, q2, q3, q4, q5, q6, q7, q8, q9, q10, q11, q12, q13, q14, q15, q16, q17, n1, n2, n3, n4, n5, n6, n7, n8, n9, n10, n11, n12, n13, n14, n15, n16, n17⟩ := h
  simp (disch := first | assumption | omega) only [f_X10_nameAt, litN, grd_t, grd_T, ldI_t, stI_t, ldA_t, stA_t, lenA_t, n_lt_t, n_lt_f, n_le_t, n_le_f, n_eq_t, n_eq_f, if_true, if_false, nI_add, nI_mul, bt_d, bI_z, bI_o, Option.bind_some, Bool.true_eq_false, Bool.false_eq_true, ldR, m0, m3]
theorem s10_typeAt {σ : Sh} {Y : Mx} {m b t c : Nat} (h : mdOK σ m) (hb : b ≤ 931) (ht : t < 3) (hc : c < 9) : f_X10_typeAt σ Y m (nI b) (nI t) (nI c) = some (Y.1 (m + 3) (b + 200 * t + 11 + c)) := by
  obtain ⟨m0, m1, m2, m3, m4, m5, m6, m7, m8, m9, m10, m11, m12, m13, m14, m15, m16, m17, q1, q2, q3, q4, q5, q6, q7, q8, q9, q10, q11, q12, q13, q14, q15, q16, q17, n1, n2, n3, n4, n5, n6, n7, n8, n9, n10, n11, n12, n13, n14, n15, n16, n17⟩ := h
  simp (disch := first | assumption | omega) only [f_X10_typeAt, litN, grd_t, grd_T, ldI_t, stI_t, ldA_t, stA_t, lenA_t, n_lt_t, n_lt_f, n_le_t, n_le_f, n_eq_t, n_eq_f, if_true, if_false, nI_add, nI_mul, bt_d, bI_z, bI_o, Option.bind_some, Bool.true_eq_false, Bool.false_eq_true, ldR, m0, m3]
theorem s10_cellAt {b t k c : Nat} : f_X10_cellAt (nI b) (nI t) (nI k) (nI c) = nI (b + 200 * t + 20 + 9 * k + c) := by
  simp only [f_X10_cellAt, litN, nI_add, nI_mul]
theorem s10_hasName {σ : Sh} {Y : Mx} {m b t : Nat} {x : Int32} (h : mdOK σ m) (hb : b ≤ 931) (ht : t < 3) : f_X10_hasName σ Y m (nI b) (nI t) x = some (bI (anyB (fun c => bt (Y.1 (m + 3) (b + 200 * t)) c && decide (Y.1 (m + 3) (b + 200 * t + 2 + c) = x)) 9)) := by
  have hM := h
  obtain ⟨m0, m1, m2, m3, m4, m5, m6, m7, m8, m9, m10, m11, m12, m13, m14, m15, m16, m17, q1, q2, q3, q4, q5, q6, q7, q8, q9, q10, q11, q12, q13, q14, q15, q16, q17, n1, n2, n3, n4, n5, n6, n7, n8, n9, n10, n11, n12, n13, n14, n15, n16, n17⟩ := h
  unfold f_X10_hasName
  rw [grd_t m0]
  have := any_loop (F := fun n k => f_X10_hasName_3 σ Y m (nI b) (nI t) x n (nI k)) (N := 9) (p := fun c => bt (Y.1 (m + 3) (b + 200 * t)) c && decide (Y.1 (m + 3) (b + 200 * t + 2 + c) = x)) (e := false) (by
    intro n k hk
    rw [f_X10_hasName_3]
    simp (disch := first | assumption | omega) only [litN, grd_t, grd_T, ldI_t, stI_t, ldA_t, stA_t, lenA_t, n_lt_t, n_lt_f, n_le_t, n_le_f, n_eq_t, n_eq_f, if_true, if_false, nI_add, nI_mul, bt_d, bI_z, bI_o, Option.bind_some, Bool.true_eq_false, Bool.false_eq_true, s10_hasColumn hM, s10_nameAt hM, inB_n, f_X10_hasName_35]
    cases bt (Y.1 (m + 3) (b + 200 * t)) k
    · simp
    · by_cases e : Y.1 (m + 3) (b + 200 * t + 2 + k) = x <;> simp [e]) (by
    intro n
    rw [f_X10_hasName_3]
    simp (disch := first | assumption | omega) only [litN, grd_t, grd_T, ldI_t, stI_t, ldA_t, stA_t, lenA_t, n_lt_t, n_lt_f, n_le_t, n_le_f, n_eq_t, n_eq_f, if_true, if_false, nI_add, nI_mul, bt_d, bI_z, bI_o, Option.bind_some, Bool.true_eq_false, Bool.false_eq_true, bI_f]) FU 0 (by omega) (by decide) rfl
  rw [Bool.or_false] at this
  exact this
/-- the base's cell as the reference sees it -/
def rBase (W : Nat → Int32) (b k c : Nat) : Int32 := if bt (W (b + 200 * 2 + 1)) k = true ∧ bt (W (b + 200 * 2)) c = true then W (b + 200 * 2 + 20 + 9 * k + c) else nI 9999
theorem s10_baseCell {σ : Sh} {Y : Mx} {m b k c : Nat} (h : mdOK σ m) (hb : b ≤ 931) (hk : k < 20) (hc : c < 9) : f_X10_baseCell σ Y m (nI b) (nI k) (nI c) = some (rBase (Y.1 (m + 3)) b k c) := by
  have hM := h
  obtain ⟨m0, m1, m2, m3, m4, m5, m6, m7, m8, m9, m10, m11, m12, m13, m14, m15, m16, m17, q1, q2, q3, q4, q5, q6, q7, q8, q9, q10, q11, q12, q13, q14, q15, q16, q17, n1, n2, n3, n4, n5, n6, n7, n8, n9, n10, n11, n12, n13, n14, n15, n16, n17⟩ := h
  simp (disch := first | assumption | omega) only [f_X10_baseCell, litN, grd_t, grd_T, ldI_t, stI_t, ldA_t, stA_t, lenA_t, n_lt_t, n_lt_f, n_le_t, n_le_f, n_eq_t, n_eq_f, if_true, if_false, nI_add, nI_mul, bt_d, bI_z, bI_o, Option.bind_some, Bool.true_eq_false, Bool.false_eq_true, s10_hasColumn hM, s10_hasRow hM, inB_n, s10_cellAt, ldR, m0, m3, rBase]
  cases bt (Y.1 (m + 3) (b + 200 * 2 + 1)) k
  · simp
  · cases bt (Y.1 (m + 3) (b + 200 * 2)) c <;> simp
def rChg (W : Nat → Int32) (b t k c : Nat) : Bool := bt (W (b + 200 * t + 1)) k && bt (W (b + 200 * t)) c && decide (W (b + 200 * t + 20 + 9 * k + c) ≠ f_X10_castTo (W (b + 200 * t + 11 + c)) (rBase W b k c))
theorem s10_isChanged {σ : Sh} {Y : Mx} {m b t k c : Nat} (h : mdOK σ m) (hb : b ≤ 931) (ht : t < 3) (hk : k < 20) (hc : c < 9) : f_X10_isChanged σ Y m (nI b) (nI t) (nI k) (nI c) = some (bI (rChg (Y.1 (m + 3)) b t k c)) := by
  have hM := h
  obtain ⟨m0, m1, m2, m3, m4, m5, m6, m7, m8, m9, m10, m11, m12, m13, m14, m15, m16, m17, q1, q2, q3, q4, q5, q6, q7, q8, q9, q10, q11, q12, q13, q14, q15, q16, q17, n1, n2, n3, n4, n5, n6, n7, n8, n9, n10, n11, n12, n13, n14, n15, n16, n17⟩ := h
  simp (disch := first | assumption | omega) only [f_X10_isChanged, litN, grd_t, grd_T, ldI_t, stI_t, ldA_t, stA_t, lenA_t, n_lt_t, n_lt_f, n_le_t, n_le_f, n_eq_t, n_eq_f, if_true, if_false, nI_add, nI_mul, bt_d, bI_z, bI_o, Option.bind_some, Bool.true_eq_false, Bool.false_eq_true, s10_hasColumn hM, s10_hasRow hM, inB_n, s10_cellAt, s10_typeAt hM, s10_baseCell hM, ldR, m0, m3, rChg]
  cases bt (Y.1 (m + 3) (b + 200 * t + 1)) k
  · simp; rfl
  · cases bt (Y.1 (m + 3) (b + 200 * t)) c
    · simp; rfl
    · by_cases e : Y.1 (m + 3) (b + 200 * t + 20 + 9 * k + c) = f_X10_castTo (Y.1 (m + 3) (b + 200 * t + 11 + c)) (rBase (Y.1 (m + 3)) b k c)
      · simp [e]; rfl
      · simp [e]; rfl
theorem s10_isColumnChanged {σ : Sh} {Y : Mx} {m b t c : Nat} (h : mdOK σ m) (hb : b ≤ 931) (ht : t < 3) (hc : c < 9) : f_X10_isColumnChanged σ Y m (nI b) (nI t) (nI c) = some (bI (anyB (fun k => rChg (Y.1 (m + 3)) b t k c) 20 || decide (Y.1 (m + 3) (b + 200 * t + 2 + c) ≠ Y.1 (m + 3) (b + 200 * 2 + 2 + c) ∨ Y.1 (m + 3) (b + 200 * t + 11 + c) ≠ Y.1 (m + 3) (b + 200 * 2 + 11 + c)))) := by
  have hM := h
  obtain ⟨m0, m1, m2, m3, m4, m5, m6, m7, m8, m9, m10, m11, m12, m13, m14, m15, m16, m17, q1, q2, q3, q4, q5, q6, q7, q8, q9, q10, q11, q12, q13, q14, q15, q16, q17, n1, n2, n3, n4, n5, n6, n7, n8, n9, n10, n11, n12, n13, n14, n15, n16, n17⟩ := h
  unfold f_X10_isColumnChanged
  rw [grd_t m0]
  exact any_loop (F := fun n k => f_X10_isColumnChanged_3 σ Y m (nI b) (nI t) (nI c) n (nI k)) (N := 20) (p := fun k => rChg (Y.1 (m + 3)) b t k c) (by
    intro n k hk
    rw [f_X10_isColumnChanged_3]
    simp (disch := first | assumption | omega) only [litN, grd_t, grd_T, ldI_t, stI_t, ldA_t, stA_t, lenA_t, n_lt_t, n_lt_f, n_le_t, n_le_f, n_eq_t, n_eq_f, if_true, if_false, nI_add, nI_mul, bt_d, bI_z, bI_o, Option.bind_some, Bool.true_eq_false, Bool.false_eq_true, s10_isChanged hM]
    cases rChg (Y.1 (m + 3)) b t k c <;> simp) (by
    intro n
    rw [f_X10_isColumnChanged_3]
    simp (disch := first | assumption | omega) only [litN, grd_t, grd_T, ldI_t, stI_t, ldA_t, stA_t, lenA_t, n_lt_t, n_lt_f, n_le_t, n_le_f, n_eq_t, n_eq_f, if_true, if_false, nI_add, nI_mul, bt_d, bI_z, bI_o, Option.bind_some, Bool.true_eq_false, Bool.false_eq_true, s10_nameAt hM, s10_typeAt hM]
    by_cases e1 : Y.1 (m + 3) (b + 200 * t + 2 + c) = Y.1 (m + 3) (b + 200 * 2 + 2 + c)
    · by_cases e2 : Y.1 (m + 3) (b + 200 * t + 11 + c) = Y.1 (m + 3) (b + 200 * 2 + 11 + c)
      · simp [e1, e2]; rfl
      · simp [e1, e2]; rfl
    · simp [e1]; rfl) FU 0 (by omega) (by decide) rfl
theorem s10_isRowChanged {σ : Sh} {Y : Mx} {m b t k : Nat} (h : mdOK σ m) (hb : b ≤ 931) (ht : t < 3) (hk : k < 20) : f_X10_isRowChanged σ Y m (nI b) (nI t) (nI k) = some (bI (anyB (fun c => rChg (Y.1 (m + 3)) b t k c) 9)) := by
  have hM := h
  obtain ⟨m0, m1, m2, m3, m4, m5, m6, m7, m8, m9, m10, m11, m12, m13, m14, m15, m16, m17, q1, q2, q3, q4, q5, q6, q7, q8, q9, q10, q11, q12, q13, q14, q15, q16, q17, n1, n2, n3, n4, n5, n6, n7, n8, n9, n10, n11, n12, n13, n14, n15, n16, n17⟩ := h
  unfold f_X10_isRowChanged
  rw [grd_t m0]
  have := any_loop (F := fun n c => f_X10_isRowChanged_3 σ Y m (nI b) (nI t) (nI k) n (nI c)) (N := 9) (p := fun c => rChg (Y.1 (m + 3)) b t k c) (e := false) (by
    intro n c hc
    rw [f_X10_isRowChanged_3]
    simp (disch := first | assumption | omega) only [litN, grd_t, grd_T, ldI_t, stI_t, ldA_t, stA_t, lenA_t, n_lt_t, n_lt_f, n_le_t, n_le_f, n_eq_t, n_eq_f, if_true, if_false, nI_add, nI_mul, bt_d, bI_z, bI_o, Option.bind_some, Bool.true_eq_false, Bool.false_eq_true, s10_isChanged hM]
    cases rChg (Y.1 (m + 3)) b t k c <;> simp) (by
    intro n
    rw [f_X10_isRowChanged_3]
    simp (disch := first | assumption | omega) only [litN, grd_t, grd_T, ldI_t, stI_t, ldA_t, stA_t, lenA_t, n_lt_t, n_lt_f, n_le_t, n_le_f, n_eq_t, n_eq_f, if_true, if_false, nI_add, nI_mul, bt_d, bI_z, bI_o, Option.bind_some, Bool.true_eq_false, Bool.false_eq_true, bI_f]) FU 0 (by omega) (by decide) rfl
  rw [Bool.or_false] at this
  exact this
