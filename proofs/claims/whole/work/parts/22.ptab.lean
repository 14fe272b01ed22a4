
theorem s_hasColumn {σ : Sh} {X : Mx} {a : Nat} {x : Int32} (h : tabOK σ a) : f_X6_hasColumn σ X a x = some (bI (inB 9 (X.1 a 0) x)) := by
  obtain ⟨h1, h2, h3, h4, h5, h6, h7, h8, h9, h10⟩ := h
  rcases i32_cases x 9 (by omega) with ⟨k, hk, rfl⟩ | hk | ⟨hk, hk2⟩
  · simp (disch := first | assumption | omega) only [f_X6_hasColumn, litN, grd_t, grd_T, ldI_t, stI_t, ldA_t, stA_t, lenA_t, n_lt_t, n_lt_f, n_le_t, n_le_f, n_eq_t, n_eq_f, if_true, if_false, nI_add, nI_mul, bt_d, bI_z, bI_o, Option.bind_some, inB_n, bI_ite]
  · simp (disch := first | assumption | omega) only [f_X6_hasColumn, litN, grd_t, grd_T, ldI_t, stI_t, ldA_t, stA_t, lenA_t, n_lt_t, n_lt_f, n_le_t, n_le_f, n_eq_t, n_eq_f, if_true, if_false, nI_add, nI_mul, bt_d, bI_z, bI_o, Option.bind_some, inB_lo, if_pos, bI_f]
  · simp (disch := first | assumption | omega) only [f_X6_hasColumn, litN, grd_t, grd_T, ldI_t, stI_t, ldA_t, stA_t, lenA_t, n_lt_t, n_lt_f, n_le_t, n_le_f, n_eq_t, n_eq_f, if_true, if_false, nI_add, nI_mul, bt_d, bI_z, bI_o, Option.bind_some, inB_hi, if_pos, if_neg, bI_f]
theorem s_hasRow {σ : Sh} {X : Mx} {a : Nat} {x : Int32} (h : tabOK σ a) : f_X6_hasRow σ X a x = some (bI (inB 20 (X.1 a 1) x)) := by
  obtain ⟨h1, h2, h3, h4, h5, h6, h7, h8, h9, h10⟩ := h
  rcases i32_cases x 20 (by omega) with ⟨k, hk, rfl⟩ | hk | ⟨hk, hk2⟩
  · simp (disch := first | assumption | omega) only [f_X6_hasRow, litN, grd_t, grd_T, ldI_t, stI_t, ldA_t, stA_t, lenA_t, n_lt_t, n_lt_f, n_le_t, n_le_f, n_eq_t, n_eq_f, if_true, if_false, nI_add, nI_mul, bt_d, bI_z, bI_o, Option.bind_some, inB_n, bI_ite]
  · simp (disch := first | assumption | omega) only [f_X6_hasRow, litN, grd_t, grd_T, ldI_t, stI_t, ldA_t, stA_t, lenA_t, n_lt_t, n_lt_f, n_le_t, n_le_f, n_eq_t, n_eq_f, if_true, if_false, nI_add, nI_mul, bt_d, bI_z, bI_o, Option.bind_some, inB_lo, if_pos, bI_f]
  · simp (disch := first | assumption | omega) only [f_X6_hasRow, litN, grd_t, grd_T, ldI_t, stI_t, ldA_t, stA_t, lenA_t, n_lt_t, n_lt_f, n_le_t, n_le_f, n_eq_t, n_eq_f, if_true, if_false, nI_add, nI_mul, bt_d, bI_z, bI_o, Option.bind_some, inB_hi, if_pos, if_neg, bI_f]
theorem s_hasCell {σ : Sh} {X : Mx} {a : Nat} {x y : Int32} (h : tabOK σ a) : f_X6_hasCell σ X a x y = some (bI (inB 20 (X.1 a 1) x && inB 9 (X.1 a 0) y)) := by
  obtain ⟨h1, h2, h3, h4, h5, h6, h7, h8, h9, h10⟩ := h
  rcases i32_cases x 20 (by omega) with ⟨k, hk, rfl⟩ | hk | ⟨hk, hk2⟩
  · rcases i32_cases y 9 (by omega) with ⟨c, hc, rfl⟩ | hc | ⟨hc, hc2⟩
    · simp (disch := first | assumption | omega) only [f_X6_hasCell, litN, grd_t, grd_T, ldI_t, stI_t, ldA_t, stA_t, lenA_t, n_lt_t, n_lt_f, n_le_t, n_le_f, n_eq_t, n_eq_f, if_true, if_false, nI_add, nI_mul, bt_d, bI_z, bI_o, Option.bind_some, inB_n]
      cases bt (X.1 a 1) k <;> simp [bI_ite]
      · rfl
    · simp (disch := first | assumption | omega) only [f_X6_hasCell, litN, grd_t, grd_T, ldI_t, stI_t, ldA_t, stA_t, lenA_t, n_lt_t, n_lt_f, n_le_t, n_le_f, n_eq_t, n_eq_f, if_true, if_false, nI_add, nI_mul, bt_d, bI_z, bI_o, Option.bind_some, inB_lo, if_pos, bI_f, Bool.and_false]
    · simp (disch := first | assumption | omega) only [f_X6_hasCell, litN, grd_t, grd_T, ldI_t, stI_t, ldA_t, stA_t, lenA_t, n_lt_t, n_lt_f, n_le_t, n_le_f, n_eq_t, n_eq_f, if_true, if_false, nI_add, nI_mul, bt_d, bI_z, bI_o, Option.bind_some, inB_hi, if_pos, if_neg, bI_f, Bool.and_false]
  · simp (disch := first | assumption | omega) only [f_X6_hasCell, litN, grd_t, grd_T, ldI_t, stI_t, ldA_t, stA_t, lenA_t, n_lt_t, n_lt_f, n_le_t, n_le_f, n_eq_t, n_eq_f, if_true, if_false, nI_add, nI_mul, bt_d, bI_z, bI_o, Option.bind_some, inB_lo, if_pos, bI_f, Bool.false_and]
  · simp (disch := first | assumption | omega) only [f_X6_hasCell, litN, grd_t, grd_T, ldI_t, stI_t, ldA_t, stA_t, lenA_t, n_lt_t, n_lt_f, n_le_t, n_le_f, n_eq_t, n_eq_f, if_true, if_false, nI_add, nI_mul, bt_d, bI_z, bI_o, Option.bind_some, inB_hi, if_pos, if_neg, bI_f, Bool.false_and]
