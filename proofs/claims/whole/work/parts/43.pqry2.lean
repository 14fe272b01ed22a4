theorem s10_isColumn {τ : Sh} {Y : Mx} {m t : Nat} {w y : Int32} (hm : mdOK τ m) (h0 : Y.1 m 0 = nI 0) (hw : f_X10_hasOf τ Y m (nI t) = some w) : f_X10_isColumn τ Y m (nI t) y = some (bI (inB 9 w y), if inB 9 w y = true then Y else sI Y m 0 (nI 1)) := by
  unfold f_X10_isColumn f_X10_isColumn_28 f_X10_isColumn_29
  rw [grd_t hm.1]
  rcases i32_cases y 9 (by omega) with ⟨k, hk, rfl⟩ | hk | ⟨hk, hk2⟩
  · rw [inB_n hk (by omega)]
    simp (disch := first | assumption | omega) only [litM, grd_t, grd_T, ldI_t, stI_t, ldA_t, stA_t, lenA_t, n_lt_t, n_lt_f, n_le_t, n_le_f, n_eq_t, n_eq_f, if_true, if_false, nI_add, nI_mul, bt_d, bI_z, bI_o, Option.bind_some, Bool.true_eq_false, Bool.false_eq_true, s_win, inR_t, bI_t, hw]
    cases bt w k with
    | true => simp (disch := first | assumption | omega) only [litM, grd_t, grd_T, ldI_t, stI_t, ldA_t, stA_t, lenA_t, n_lt_t, n_lt_f, n_le_t, n_le_f, n_eq_t, n_eq_f, if_true, if_false, nI_add, nI_mul, bt_d, bI_z, bI_o, Option.bind_some, Bool.true_eq_false, Bool.false_eq_true, s10_rt hm h0 (Or.inl rfl), bnd2, or_true, bI_t]
    | false => simp (disch := first | assumption | omega) only [litM, grd_t, grd_T, ldI_t, stI_t, ldA_t, stA_t, lenA_t, n_lt_t, n_lt_f, n_le_t, n_le_f, n_eq_t, n_eq_f, if_true, if_false, nI_add, nI_mul, bt_d, bI_z, bI_o, Option.bind_some, Bool.true_eq_false, Bool.false_eq_true, s10_rf hm h0 (Or.inl rfl), bnd2, true_or, bI_f]
  · have e : inR 8 y = false := decide_eq_false (fun q => q.1 hk)
    rw [inB_lo hk]
    simp (disch := first | assumption | omega) only [litM, grd_t, grd_T, ldI_t, stI_t, ldA_t, stA_t, lenA_t, n_lt_t, n_lt_f, n_le_t, n_le_f, n_eq_t, n_eq_f, if_true, if_false, nI_add, nI_mul, bt_d, bI_z, bI_o, Option.bind_some, Bool.true_eq_false, Bool.false_eq_true, s_win, e, bI_f, s10_rf hm h0 (Or.inl rfl), bnd2, true_or]
  · have e : inR 8 y = false := decide_eq_false (fun q => q.2 hk2)
    rw [inB_hi hk hk2]
    simp (disch := first | assumption | omega) only [litM, grd_t, grd_T, ldI_t, stI_t, ldA_t, stA_t, lenA_t, n_lt_t, n_lt_f, n_le_t, n_le_f, n_eq_t, n_eq_f, if_true, if_false, nI_add, nI_mul, bt_d, bI_z, bI_o, Option.bind_some, Bool.true_eq_false, Bool.false_eq_true, s_win, e, bI_f, s10_rf hm h0 (Or.inl rfl), bnd2, true_or]
theorem s10_isKey {τ : Sh} {Y : Mx} {m t : Nat} {w y : Int32} (hm : mdOK τ m) (h0 : Y.1 m 0 = nI 0) (hw : f_X10_keysOf τ Y m (nI t) = some w) : f_X10_isKey τ Y m (nI t) y = some (bI (inB 20 w y), if inB 20 w y = true then Y else sI Y m 0 (nI 1)) := by
  unfold f_X10_isKey f_X10_isKey_28 f_X10_isKey_29
  rw [grd_t hm.1]
  rcases i32_cases y 20 (by omega) with ⟨k, hk, rfl⟩ | hk | ⟨hk, hk2⟩
  · rw [inB_n hk (by omega)]
    simp (disch := first | assumption | omega) only [litM, grd_t, grd_T, ldI_t, stI_t, ldA_t, stA_t, lenA_t, n_lt_t, n_lt_f, n_le_t, n_le_f, n_eq_t, n_eq_f, if_true, if_false, nI_add, nI_mul, bt_d, bI_z, bI_o, Option.bind_some, Bool.true_eq_false, Bool.false_eq_true, s_win, inR_t, bI_t, hw]
    cases bt w k with
    | true => simp (disch := first | assumption | omega) only [litM, grd_t, grd_T, ldI_t, stI_t, ldA_t, stA_t, lenA_t, n_lt_t, n_lt_f, n_le_t, n_le_f, n_eq_t, n_eq_f, if_true, if_false, nI_add, nI_mul, bt_d, bI_z, bI_o, Option.bind_some, Bool.true_eq_false, Bool.false_eq_true, s10_rt hm h0 (Or.inl rfl), bnd2, or_true, bI_t]
    | false => simp (disch := first | assumption | omega) only [litM, grd_t, grd_T, ldI_t, stI_t, ldA_t, stA_t, lenA_t, n_lt_t, n_lt_f, n_le_t, n_le_f, n_eq_t, n_eq_f, if_true, if_false, nI_add, nI_mul, bt_d, bI_z, bI_o, Option.bind_some, Bool.true_eq_false, Bool.false_eq_true, s10_rf hm h0 (Or.inl rfl), bnd2, true_or, bI_f]
  · have e : inR 19 y = false := decide_eq_false (fun q => q.1 hk)
    rw [inB_lo hk]
    simp (disch := first | assumption | omega) only [litM, grd_t, grd_T, ldI_t, stI_t, ldA_t, stA_t, lenA_t, n_lt_t, n_lt_f, n_le_t, n_le_f, n_eq_t, n_eq_f, if_true, if_false, nI_add, nI_mul, bt_d, bI_z, bI_o, Option.bind_some, Bool.true_eq_false, Bool.false_eq_true, s_win, e, bI_f, s10_rf hm h0 (Or.inl rfl), bnd2, true_or]
  · have e : inR 19 y = false := decide_eq_false (fun q => q.2 hk2)
    rw [inB_hi hk hk2]
    simp (disch := first | assumption | omega) only [litM, grd_t, grd_T, ldI_t, stI_t, ldA_t, stA_t, lenA_t, n_lt_t, n_lt_f, n_le_t, n_le_f, n_eq_t, n_eq_f, if_true, if_false, nI_add, nI_mul, bt_d, bI_z, bI_o, Option.bind_some, Bool.true_eq_false, Bool.false_eq_true, s_win, e, bI_f, s10_rf hm h0 (Or.inl rfl), bnd2, true_or]
theorem inR_1 {y : Int32} (h : inR 1 y = false) : (y < nI 0) ∨ (¬ y < nI 0 ∧ (y ≤ nI 1) = False) := by
  rcases inR_n h with q | ⟨q, q2⟩
  · exact Or.inl q
  · refine Or.inr ⟨q, eq_false (fun z => ?_)⟩
    have a := Int32.le_iff_toInt_le.mp z
    have b := Int32.le_iff_toInt_le.mp q2
    rw [nI_toInt (by omega)] at a b
    omega
theorem q_column {σ : Sh} {X : Mx} {a L R z : Nat} {x y w : Int32} (h : IV σ X a L R) : Qry σ a L R (f_X9_column σ X z a x y w) (fun X2 => f_X10_column σ X2 (a + 108) x y w) := by
  have hs := h.1
  have o0 := hs.1.1.1
  have hD := hs.md
  have m0 := hD.1
  rcases view h x with ⟨v1, v2⟩ | ⟨t, ta, X1, ht, rfl, hta, v2, h1, v3⟩
  · refine ⟨.inr 0, X, 1, 6, ?_, by omega, by omega, h, fun X2 e2 => ?_⟩
    · simp (disch := first | assumption | omega) only [f_X9_column, litM, grd_t, grd_T, ldI_t, stI_t, ldA_t, stA_t, lenA_t, n_lt_t, n_lt_f, n_le_t, n_le_f, n_eq_t, n_eq_f, if_true, if_false, nI_add, nI_mul, bt_d, bI_z, bI_o, Option.bind_some, Bool.true_eq_false, Bool.false_eq_true, v2, bndX_r]
    · refine ⟨nI 0, sI (sI X2 (a + 108) 0 (nI 0)) (a + 108) 0 (nI 1), ?_, (FrQ.fld (by omega)).trans (FrQ.fld (by omega)), Or.inr ⟨0, rfl, by omega, sI_eq⟩⟩
      simp (disch := first | assumption | omega) only [f_X10_column, litM, grd_t, grd_T, ldI_t, stI_t, ldA_t, stA_t, lenA_t, n_lt_t, n_lt_f, n_le_t, n_le_f, n_eq_t, n_eq_f, if_true, if_false, nI_add, nI_mul, bt_d, bI_z, bI_o, Option.bind_some, Bool.true_eq_false, Bool.false_eq_true, f_X10_isTable, s_win, v1, s10_rf hD th_0 (Or.inl rfl), bnd2, bI_f]
  · have key : ∀ X2 : Mx, X2.1 = X1.1 → ∃ Y1, f_X10_isTable σ (sI X2 (a + 108) 0 (nI 0)) (a + 108) (nI t) = some (nI 1, Y1) ∧ FrY (sI X2 (a + 108) 0 (nI 0)) Y1 (a + 108) ∧ VW σ X1.1 ta Y1 (a + 108) t := fun X2 e2 => v3 _ (fun j _ => by rw [th_r, e2]) sI_eq
    have hta' := hta
    cases hc : inB 9 (X1.1 ta 0) y with
    | false =>
      refine ⟨.inr 0, X1, 1, 6, ?_, by omega, by omega, h1, fun X2 e2 => ?_⟩
      · simp (disch := first | assumption | omega) only [f_X9_column, litM, grd_t, grd_T, ldI_t, stI_t, ldA_t, stA_t, lenA_t, n_lt_t, n_lt_f, n_le_t, n_le_f, n_eq_t, n_eq_f, if_true, if_false, nI_add, nI_mul, bt_d, bI_z, bI_o, Option.bind_some, Bool.true_eq_false, Bool.false_eq_true, v2, bndX_l, adc_some, s_hasColumn hta', hc, bI_f, f_X9_column_25]
      · obtain ⟨Y1, k1, k2, k3⟩ := key X2 e2
        have h0 : Y1.1 (a + 108) 0 = nI 0 := (k2.2.2 0 (by omega) (by omega) (by omega)).trans sI_eq
        refine ⟨nI 0, sI Y1 (a + 108) 0 (nI 1), ?_, ((FrQ.fld (by omega)).trans k2.q).trans (FrQ.fld (by omega)), Or.inr ⟨0, rfl, by omega, sI_eq⟩⟩
        simp (disch := first | assumption | omega) only [f_X10_column, litM, grd_t, grd_T, ldI_t, stI_t, ldA_t, stA_t, lenA_t, n_lt_t, n_lt_f, n_le_t, n_le_f, n_eq_t, n_eq_f, if_true, if_false, nI_add, nI_mul, bt_d, bI_z, bI_o, Option.bind_some, Bool.true_eq_false, Bool.false_eq_true, k1, bnd2, s10_isColumn hD h0 k3.1, hc, bI_f]
    | true =>
      obtain ⟨c, hc9, rfl, hbc⟩ := inB_ex (by omega) hc
      cases hw : inR 1 w with
      | false =>
        refine ⟨.inr 0, X1, 1, 6, ?_, by omega, by omega, h1, fun X2 e2 => ?_⟩
        · rcases inR_1 hw with q | ⟨q, q2⟩
          · simp (disch := first | assumption | omega) only [f_X9_column, litM, grd_t, grd_T, ldI_t, stI_t, ldA_t, stA_t, lenA_t, n_lt_t, n_lt_f, n_le_t, n_le_f, n_eq_t, n_eq_f, if_true, if_false, nI_add, nI_mul, bt_d, bI_z, bI_o, Option.bind_some, Bool.true_eq_false, Bool.false_eq_true, v2, bndX_l, adc_some, s_hasColumn hta', hc, bI_t, f_X9_column_25, q]
          · simp (disch := first | assumption | omega) only [f_X9_column, litM, grd_t, grd_T, ldI_t, stI_t, ldA_t, stA_t, lenA_t, n_lt_t, n_lt_f, n_le_t, n_le_f, n_eq_t, n_eq_f, if_true, if_false, nI_add, nI_mul, bt_d, bI_z, bI_o, Option.bind_some, Bool.true_eq_false, Bool.false_eq_true, v2, bndX_l, adc_some, s_hasColumn hta', hc, bI_t, f_X9_column_25, q, q2]
        · obtain ⟨Y1, k1, k2, k3⟩ := key X2 e2
          have h0 : Y1.1 (a + 108) 0 = nI 0 := (k2.2.2 0 (by omega) (by omega) (by omega)).trans sI_eq
          refine ⟨nI 0, sI Y1 (a + 108) 0 (nI 1), ?_, ((FrQ.fld (by omega)).trans k2.q).trans (FrQ.fld (by omega)), Or.inr ⟨0, rfl, by omega, sI_eq⟩⟩
          simp (disch := first | assumption | omega) only [f_X10_column, litM, grd_t, grd_T, ldI_t, stI_t, ldA_t, stA_t, lenA_t, n_lt_t, n_lt_f, n_le_t, n_le_f, n_eq_t, n_eq_f, if_true, if_false, nI_add, nI_mul, bt_d, bI_z, bI_o, Option.bind_some, Bool.true_eq_false, Bool.false_eq_true, k1, bnd2, s10_isColumn hD h0 k3.1, hc, bI_t, s10_isWhat hD h0, hw, bI_f]
      | true =>
        obtain ⟨u, hu, rfl⟩ := inR_ex (by omega) hw
        have fin : ∀ X2 : Mx, X2.1 = X1.1 → ∃ b X3, f_X10_column σ X2 (a + 108) (nI t) (nI c) (nI u) = some (b, X3) ∧ FrQ X2 X3 (a + 108) ∧ X3.1 (a + 108) 0 = nI 0 ∧ b = X1.1 (ta + 1 + u) c := by
          intro X2 e2
          obtain ⟨Y1, k1, k2, k3⟩ := key X2 e2
          have h0 : Y1.1 (a + 108) 0 = nI 0 := (k2.2.2 0 (by omega) (by omega) (by omega)).trans sI_eq
          have k4 := k3.2.2.1 c hc9 hbc
          refine ⟨X1.1 (ta + 1 + u) c, Y1, ?_, (FrQ.fld (by omega)).trans k2.q, h0, rfl⟩
          have hD' := hD
          obtain ⟨m0, m1, m2, m3, m4, m5, m6, m7, m8, m9, m10, m11, m12, m13, m14, m15, m16, m17, mq1, mq2, mq3, mq4, mq5, mq6, mq7, mq8, mq9, mq10, mq11, mq12, mq13, mq14, mq15, mq16, mq17, mn1, mn2, mn3, mn4, mn5, mn6, mn7, mn8, mn9, mn10, mn11, mn12, mn13, mn14, mn15, mn16, mn17⟩ := hD
          by_cases e3 : t = 3
          · obtain ⟨n1, n2⟩ := k4.1 e3
            subst e3
            rcases (show u = 0 ∨ u = 1 by omega) with rfl | rfl
            · simp (disch := first | assumption | omega) only [f_X10_column, litM, grd_t, grd_T, ldI_t, stI_t, ldA_t, stA_t, lenA_t, n_lt_t, n_lt_f, n_le_t, n_le_f, n_eq_t, n_eq_f, if_true, if_false, nI_add, nI_mul, bt_d, bI_z, bI_o, Option.bind_some, Bool.true_eq_false, Bool.false_eq_true, ldR, eq_self, if_true, Option.bind_some, k1, bnd2, s10_isColumn hD' h0 k3.1, hc, bI_t, s10_isWhat hD' h0, hw, m0, m5, n1, Nat.add_zero]
            · simp (disch := first | assumption | omega) only [f_X10_column, litM, grd_t, grd_T, ldI_t, stI_t, ldA_t, stA_t, lenA_t, n_lt_t, n_lt_f, n_le_t, n_le_f, n_eq_t, n_eq_f, if_true, if_false, nI_add, nI_mul, bt_d, bI_z, bI_o, Option.bind_some, Bool.true_eq_false, Bool.false_eq_true, ldR, eq_self, if_true, Option.bind_some, k1, bnd2, s10_isColumn hD' h0 k3.1, hc, bI_t, s10_isWhat hD' h0, hw, m0, m6, n2]
          · obtain ⟨n1, n2⟩ := k4.2 (by omega)
            have e1 : f_X10_nameAt σ Y1 (a + 108) (nI 0) (nI t) (nI c) = some (X1.1 (ta + 1) c) := by rw [s10_nameAt hD' (by omega) (by omega) hc9, n1]
            have e2 : f_X10_typeAt σ Y1 (a + 108) (nI 0) (nI t) (nI c) = some (X1.1 (ta + 2) c) := by rw [s10_typeAt hD' (by omega) (by omega) hc9, n2]
            rcases (show u = 0 ∨ u = 1 by omega) with rfl | rfl
            · simp (disch := first | assumption | omega) only [f_X10_column, litM, grd_t, grd_T, ldI_t, stI_t, ldA_t, stA_t, lenA_t, n_lt_t, n_lt_f, n_le_t, n_le_f, n_eq_t, n_eq_f, if_true, if_false, nI_add, nI_mul, bt_d, bI_z, bI_o, Option.bind_some, Bool.true_eq_false, Bool.false_eq_true, k1, bnd2, s10_isColumn hD' h0 k3.1, hc, bI_t, s10_isWhat hD' h0, hw, e1, Nat.add_zero]
            · simp (disch := first | assumption | omega) only [f_X10_column, litM, grd_t, grd_T, ldI_t, stI_t, ldA_t, stA_t, lenA_t, n_lt_t, n_lt_f, n_le_t, n_le_f, n_eq_t, n_eq_f, if_true, if_false, nI_add, nI_mul, bt_d, bI_z, bI_o, Option.bind_some, Bool.true_eq_false, Bool.false_eq_true, k1, bnd2, s10_isColumn hD' h0 k3.1, hc, bI_t, s10_isWhat hD' h0, hw, e2]
        refine ⟨.inl (X1.1 (ta + 1 + u) c), X1, 0, 0, ?_, by omega, by omega, h1, fun X2 e2 => ?_⟩
        · obtain ⟨h1, h2, h3, h4, h5, h6, h7, h8, h9, h10⟩ := hta
          rcases (show u = 0 ∨ u = 1 by omega) with rfl | rfl
          · simp (disch := first | assumption | omega) only [f_X9_column, litM, grd_t, grd_T, ldI_t, stI_t, ldA_t, stA_t, lenA_t, n_lt_t, n_lt_f, n_le_t, n_le_f, n_eq_t, n_eq_f, if_true, if_false, nI_add, nI_mul, bt_d, bI_z, bI_o, Option.bind_some, Bool.true_eq_false, Bool.false_eq_true, ldR, eq_self, if_true, Option.bind_some, v2, bndX_l, adc_some, s_hasColumn hta', hc, bI_t, h1, h2, Nat.add_zero]
          · simp (disch := first | assumption | omega) only [f_X9_column, litM, grd_t, grd_T, ldI_t, stI_t, ldA_t, stA_t, lenA_t, n_lt_t, n_lt_f, n_le_t, n_le_f, n_eq_t, n_eq_f, if_true, if_false, nI_add, nI_mul, bt_d, bI_z, bI_o, Option.bind_some, Bool.true_eq_false, Bool.false_eq_true, ldR, eq_self, if_true, Option.bind_some, v2, bndX_l, adc_some, s_hasColumn hta', hc, bI_t, h1, h3]
        · obtain ⟨b, X3, r1, r2, r3, r4⟩ := fin X2 e2
          exact ⟨b, X3, r1, r2, Or.inl ⟨_, rfl, r3, r4⟩⟩
theorem q_cell {σ : Sh} {X : Mx} {a L R z : Nat} {x y w : Int32} (h : IV σ X a L R) : Qry σ a L R (f_X9_cell σ X z a x y w) (fun X2 => f_X10_cell σ X2 (a + 108) x y w) := by
  have hs := h.1
  have o0 := hs.1.1.1
  have hD := hs.md
  have m0 := hD.1
  rcases view h x with ⟨v1, v2⟩ | ⟨t, ta, X1, ht, rfl, hta, v2, h1, v3⟩
  · refine ⟨.inr 0, X, 1, 6, ?_, by omega, by omega, h, fun X2 e2 => ?_⟩
    · simp (disch := first | assumption | omega) only [f_X9_cell, litM, grd_t, grd_T, ldI_t, stI_t, ldA_t, stA_t, lenA_t, n_lt_t, n_lt_f, n_le_t, n_le_f, n_eq_t, n_eq_f, if_true, if_false, nI_add, nI_mul, bt_d, bI_z, bI_o, Option.bind_some, Bool.true_eq_false, Bool.false_eq_true, v2, bndX_r]
    · refine ⟨nI 0, sI (sI X2 (a + 108) 0 (nI 0)) (a + 108) 0 (nI 1), ?_, (FrQ.fld (by omega)).trans (FrQ.fld (by omega)), Or.inr ⟨0, rfl, by omega, sI_eq⟩⟩
      simp (disch := first | assumption | omega) only [f_X10_cell, litM, grd_t, grd_T, ldI_t, stI_t, ldA_t, stA_t, lenA_t, n_lt_t, n_lt_f, n_le_t, n_le_f, n_eq_t, n_eq_f, if_true, if_false, nI_add, nI_mul, bt_d, bI_z, bI_o, Option.bind_some, Bool.true_eq_false, Bool.false_eq_true, f_X10_isTable, s_win, v1, s10_rf hD th_0 (Or.inl rfl), bnd2, bI_f]
  · have key : ∀ X2 : Mx, X2.1 = X1.1 → ∃ Y1, f_X10_isTable σ (sI X2 (a + 108) 0 (nI 0)) (a + 108) (nI t) = some (nI 1, Y1) ∧ FrY (sI X2 (a + 108) 0 (nI 0)) Y1 (a + 108) ∧ VW σ X1.1 ta Y1 (a + 108) t := fun X2 e2 => v3 _ (fun j _ => by rw [th_r, e2]) sI_eq
    cases hk : inB 20 (X1.1 ta 1) y with
    | false =>
      refine ⟨.inr 0, X1, 1, 6, ?_, by omega, by omega, h1, fun X2 e2 => ?_⟩
      · simp (disch := first | assumption | omega) only [f_X9_cell, litM, grd_t, grd_T, ldI_t, stI_t, ldA_t, stA_t, lenA_t, n_lt_t, n_lt_f, n_le_t, n_le_f, n_eq_t, n_eq_f, if_true, if_false, nI_add, nI_mul, bt_d, bI_z, bI_o, Option.bind_some, Bool.true_eq_false, Bool.false_eq_true, v2, bndX_l, adc_some, s_hasCell hta, hk, Bool.false_and, bI_f]
      · obtain ⟨Y1, k1, k2, k3⟩ := key X2 e2
        have h0 : Y1.1 (a + 108) 0 = nI 0 := (k2.2.2 0 (by omega) (by omega) (by omega)).trans sI_eq
        refine ⟨nI 0, sI Y1 (a + 108) 0 (nI 1), ?_, ((FrQ.fld (by omega)).trans k2.q).trans (FrQ.fld (by omega)), Or.inr ⟨0, rfl, by omega, sI_eq⟩⟩
        simp (disch := first | assumption | omega) only [f_X10_cell, litM, grd_t, grd_T, ldI_t, stI_t, ldA_t, stA_t, lenA_t, n_lt_t, n_lt_f, n_le_t, n_le_f, n_eq_t, n_eq_f, if_true, if_false, nI_add, nI_mul, bt_d, bI_z, bI_o, Option.bind_some, Bool.true_eq_false, Bool.false_eq_true, k1, bnd2, s10_isKey hD h0 k3.2.1, hk, bI_f]
    | true =>
      obtain ⟨k, hk20, rfl, hbk⟩ := inB_ex (by omega) hk
      cases hc : inB 9 (X1.1 ta 0) w with
      | false =>
        refine ⟨.inr 0, X1, 1, 6, ?_, by omega, by omega, h1, fun X2 e2 => ?_⟩
        · simp (disch := first | assumption | omega) only [f_X9_cell, litM, grd_t, grd_T, ldI_t, stI_t, ldA_t, stA_t, lenA_t, n_lt_t, n_lt_f, n_le_t, n_le_f, n_eq_t, n_eq_f, if_true, if_false, nI_add, nI_mul, bt_d, bI_z, bI_o, Option.bind_some, Bool.true_eq_false, Bool.false_eq_true, v2, bndX_l, adc_some, s_hasCell hta, hk, hc, Bool.and_false, bI_f]
        · obtain ⟨Y1, k1, k2, k3⟩ := key X2 e2
          have h0 : Y1.1 (a + 108) 0 = nI 0 := (k2.2.2 0 (by omega) (by omega) (by omega)).trans sI_eq
          refine ⟨nI 0, sI Y1 (a + 108) 0 (nI 1), ?_, ((FrQ.fld (by omega)).trans k2.q).trans (FrQ.fld (by omega)), Or.inr ⟨0, rfl, by omega, sI_eq⟩⟩
          simp (disch := first | assumption | omega) only [f_X10_cell, litM, grd_t, grd_T, ldI_t, stI_t, ldA_t, stA_t, lenA_t, n_lt_t, n_lt_f, n_le_t, n_le_f, n_eq_t, n_eq_f, if_true, if_false, nI_add, nI_mul, bt_d, bI_z, bI_o, Option.bind_some, Bool.true_eq_false, Bool.false_eq_true, k1, bnd2, s10_isKey hD h0 k3.2.1, hk, bI_t, s10_isColumn hD h0 k3.1, hc, bI_f]
      | true =>
        obtain ⟨c, hc9, rfl, hbc⟩ := inB_ex (by omega) hc
        refine ⟨.inl (X1.1 (ta + 3) (9 * k + c)), X1, 0, 0, ?_, by omega, by omega, h1, fun X2 e2 => ?_⟩
        · simp (disch := first | assumption | omega) only [f_X9_cell, litM, grd_t, grd_T, ldI_t, stI_t, ldA_t, stA_t, lenA_t, n_lt_t, n_lt_f, n_le_t, n_le_f, n_eq_t, n_eq_f, if_true, if_false, nI_add, nI_mul, bt_d, bI_z, bI_o, Option.bind_some, Bool.true_eq_false, Bool.false_eq_true, v2, bndX_l, adc_some, s_hasCell hta, hk, hc, Bool.and_self, bI_t, s_numberAt hta]
        · obtain ⟨Y1, k1, k2, k3⟩ := key X2 e2
          have h0 : Y1.1 (a + 108) 0 = nI 0 := (k2.2.2 0 (by omega) (by omega) (by omega)).trans sI_eq
          have k4 := k3.2.2.2 k c hk20 hc9 hbk hbc
          refine ⟨X1.1 (ta + 3) (9 * k + c), Y1, ?_, (FrQ.fld (by omega)).trans k2.q, Or.inl ⟨_, rfl, h0, rfl⟩⟩
          by_cases e3 : t = 3
          · have n1 := k4.1 e3
            subst e3
            simp (disch := first | assumption | omega) only [f_X10_cell, litM, grd_t, grd_T, ldI_t, stI_t, ldA_t, stA_t, lenA_t, n_lt_t, n_lt_f, n_le_t, n_le_f, n_eq_t, n_eq_f, if_true, if_false, nI_add, nI_mul, bt_d, bI_z, bI_o, Option.bind_some, Bool.true_eq_false, Bool.false_eq_true, k1, bnd2, s10_isKey hD h0 k3.2.1, hk, bI_t, s10_isColumn hD h0 k3.1, hc, s10_mergedAt hD, n1]
          · have n1 := k4.2 (by omega)
            have hD' := hD
            obtain ⟨m0, m1, m2, m3, m4, m5, m6, m7, m8, m9, m10, m11, m12, m13, m14, m15, m16, m17, mq1, mq2, mq3, mq4, mq5, mq6, mq7, mq8, mq9, mq10, mq11, mq12, mq13, mq14, mq15, mq16, mq17, mn1, mn2, mn3, mn4, mn5, mn6, mn7, mn8, mn9, mn10, mn11, mn12, mn13, mn14, mn15, mn16, mn17⟩ := hD
            simp (disch := first | assumption | omega) only [f_X10_cell, litM, grd_t, grd_T, ldI_t, stI_t, ldA_t, stA_t, lenA_t, n_lt_t, n_lt_f, n_le_t, n_le_f, n_eq_t, n_eq_f, if_true, if_false, nI_add, nI_mul, bt_d, bI_z, bI_o, Option.bind_some, Bool.true_eq_false, Bool.false_eq_true, ldR, eq_self, if_true, Option.bind_some, k1, bnd2, s10_isKey hD' h0 k3.2.1, hk, bI_t, s10_isColumn hD' h0 k3.1, hc, s10_cellAt, m0, m3, n1]
theorem q_whose {σ : Sh} {X : Mx} {a L R z : Nat} {y w : Int32} (h : IV σ X a L R) : Qry σ a L R (f_X9_whose σ X z a y w) (fun X2 => f_X10_whose σ X2 (a + 108) y w) := by
  have hs := h.1
  have o0 := hs.1.1.1
  have hD := hs.md
  have m0 := hD.1
  have hG := hs.mg
  obtain ⟨X1, e1, h1, hM, hF, hF2⟩ := fresh h
  have key : ∀ X2 : Mx, X2.1 = X1.1 → ∃ Y1 n, f_X10_merges σ (sI X2 (a + 108) 0 (nI 0)) (a + 108) (nI 0) = some Y1 ∧ FrY (sI X2 (a + 108) 0 (nI 0)) Y1 (a + 108) ∧ n ≤ 299 ∧ MR n (X1.1 (a + 17)) (X1.1 L 0) (X1.1 R 0) X1.1 (a + 18) Y1.1 (a + 108) := fun X2 e2 => hM σ _ hD (fun j _ => by rw [th_r, e2])
  have isT : ∀ X2 Y1 : Mx, f_X10_merges σ (sI X2 (a + 108) 0 (nI 0)) (a + 108) (nI 0) = some Y1 → f_X10_isTable σ (sI X2 (a + 108) 0 (nI 0)) (a + 108) (nI 3) = some (nI 1, Y1) := by
    intro X2 Y1 k1
    unfold f_X10_isTable
    rw [grd_t m0]
    simp only [litM]
    rw [s_win (by omega), inR_t (by omega) (by omega), s10_right hD th_0 (Or.inl rfl)]
    simp (disch := first | assumption | omega) only [litM, grd_t, grd_T, ldI_t, stI_t, ldA_t, stA_t, lenA_t, n_lt_t, n_lt_f, n_le_t, n_le_f, n_eq_t, n_eq_f, if_true, if_false, nI_add, nI_mul, bt_d, bI_z, bI_o, Option.bind_some, Bool.true_eq_false, Bool.false_eq_true, bnd2, bI_t, k1]
  have hof : ∀ Y1 : Mx, f_X10_hasOf σ Y1 (a + 108) (nI 3) = some (Y1.1 (a + 108) 20) := fun Y1 => by simp (disch := first | assumption | omega) only [f_X10_hasOf, litM, grd_t, grd_T, ldI_t, stI_t, ldA_t, stA_t, lenA_t, n_lt_t, n_lt_f, n_le_t, n_le_f, n_eq_t, n_eq_f, if_true, if_false, nI_add, nI_mul, bt_d, bI_z, bI_o, Option.bind_some, Bool.true_eq_false, Bool.false_eq_true]
  have kof : ∀ Y1 : Mx, f_X10_keysOf σ Y1 (a + 108) (nI 3) = some (Y1.1 (a + 108) 21) := fun Y1 => by simp (disch := first | assumption | omega) only [f_X10_keysOf, litM, grd_t, grd_T, ldI_t, stI_t, ldA_t, stA_t, lenA_t, n_lt_t, n_lt_f, n_le_t, n_le_f, n_eq_t, n_eq_f, if_true, if_false, nI_add, nI_mul, bt_d, bI_z, bI_o, Option.bind_some, Bool.true_eq_false, Bool.false_eq_true]
  have hGT := hG.2.2.2.2.2.2.2.1
  cases hk : inB 20 (X1.1 (a + 18 + 1) 1) y with
  | false =>
    refine ⟨.inr 0, X1, 1, 6, ?_, by omega, by omega, h1, fun X2 e2 => ?_⟩
    · simp (disch := first | assumption | omega) only [f_X9_whose, litM, grd_t, grd_T, ldI_t, stI_t, ldA_t, stA_t, lenA_t, n_lt_t, n_lt_f, n_le_t, n_le_f, n_eq_t, n_eq_f, if_true, if_false, nI_add, nI_mul, bt_d, bI_z, bI_o, Option.bind_some, Bool.true_eq_false, Bool.false_eq_true, e1, bnd2, ldR_g hG, s_hasCell hGT, hk, Bool.false_and, bI_f]
    · obtain ⟨Y1, n, k1, k2, k3, k4⟩ := key X2 e2
      have h0 : Y1.1 (a + 108) 0 = nI 0 := (k2.2.2 0 (by omega) (by omega) (by omega)).trans sI_eq
      rw [k4.1.2.1] at hk
      refine ⟨nI 0, sI Y1 (a + 108) 0 (nI 1), ?_, ((FrQ.fld (by omega)).trans k2.q).trans (FrQ.fld (by omega)), Or.inr ⟨0, rfl, by omega, sI_eq⟩⟩
      simp (disch := first | assumption | omega) only [f_X10_whose, litM, grd_t, grd_T, ldI_t, stI_t, ldA_t, stA_t, lenA_t, n_lt_t, n_lt_f, n_le_t, n_le_f, n_eq_t, n_eq_f, if_true, if_false, nI_add, nI_mul, bt_d, bI_z, bI_o, Option.bind_some, Bool.true_eq_false, Bool.false_eq_true, isT X2 Y1 k1, bnd2, s10_isKey hD h0 (kof Y1), hk, bI_f]
  | true =>
    obtain ⟨k, hk20, rfl, hbk⟩ := inB_ex (by omega) hk
    cases hc : inB 9 (X1.1 (a + 18 + 1) 0) w with
    | false =>
      refine ⟨.inr 0, X1, 1, 6, ?_, by omega, by omega, h1, fun X2 e2 => ?_⟩
      · simp (disch := first | assumption | omega) only [f_X9_whose, litM, grd_t, grd_T, ldI_t, stI_t, ldA_t, stA_t, lenA_t, n_lt_t, n_lt_f, n_le_t, n_le_f, n_eq_t, n_eq_f, if_true, if_false, nI_add, nI_mul, bt_d, bI_z, bI_o, Option.bind_some, Bool.true_eq_false, Bool.false_eq_true, e1, bnd2, ldR_g hG, s_hasCell hGT, hk, hc, Bool.and_false, bI_f]
      · obtain ⟨Y1, n, k1, k2, k3, k4⟩ := key X2 e2
        have h0 : Y1.1 (a + 108) 0 = nI 0 := (k2.2.2 0 (by omega) (by omega) (by omega)).trans sI_eq
        rw [k4.1.2.1] at hk
        rw [k4.1.1] at hc
        refine ⟨nI 0, sI Y1 (a + 108) 0 (nI 1), ?_, ((FrQ.fld (by omega)).trans k2.q).trans (FrQ.fld (by omega)), Or.inr ⟨0, rfl, by omega, sI_eq⟩⟩
        simp (disch := first | assumption | omega) only [f_X10_whose, litM, grd_t, grd_T, ldI_t, stI_t, ldA_t, stA_t, lenA_t, n_lt_t, n_lt_f, n_le_t, n_le_f, n_eq_t, n_eq_f, if_true, if_false, nI_add, nI_mul, bt_d, bI_z, bI_o, Option.bind_some, Bool.true_eq_false, Bool.false_eq_true, isT X2 Y1 k1, bnd2, s10_isKey hD h0 (kof Y1), hk, bI_t, s10_isColumn hD h0 (hof Y1), hc, bI_f]
    | true =>
      obtain ⟨c, hc9, rfl, hbc⟩ := inB_ex (by omega) hc
      refine ⟨.inl (X1.1 (a + 18 + 5) (9 * k + c)), X1, 0, 0, ?_, by omega, by omega, h1, fun X2 e2 => ?_⟩
      · have hG' := hG
        obtain ⟨g0, g1, g2, g3, g4, g5, g6, gT, k5, l5, k6, l6, k7, l7, k8, l8, k9, l9⟩ := hG
        simp (disch := first | assumption | omega) only [f_X9_whose, litM, grd_t, grd_T, ldI_t, stI_t, ldA_t, stA_t, lenA_t, n_lt_t, n_lt_f, n_le_t, n_le_f, n_eq_t, n_eq_f, if_true, if_false, nI_add, nI_mul, bt_d, bI_z, bI_o, Option.bind_some, Bool.true_eq_false, Bool.false_eq_true, ldR, eq_self, if_true, Option.bind_some, e1, bnd2, g0, g1, g2, s_hasCell gT, hk, hc, Bool.and_self, bI_t, nine]
      · obtain ⟨Y1, n, k1, k2, k3, k4⟩ := key X2 e2
        have h0 : Y1.1 (a + 108) 0 = nI 0 := (k2.2.2 0 (by omega) (by omega) (by omega)).trans sI_eq
        rw [k4.1.2.1] at hk hbk
        rw [k4.1.1] at hc hbc
        have k5 := (k4.1.2.2.2.2.2.1 k c hk20 hc9 (by omega) hbk hbc).2
        refine ⟨X1.1 (a + 18 + 5) (9 * k + c), Y1, ?_, (FrQ.fld (by omega)).trans k2.q, Or.inl ⟨_, rfl, h0, rfl⟩⟩
        have hD' := hD
        obtain ⟨m0, m1, m2, m3, m4, m5, m6, m7, m8, m9, m10, m11, m12, m13, m14, m15, m16, m17, mq1, mq2, mq3, mq4, mq5, mq6, mq7, mq8, mq9, mq10, mq11, mq12, mq13, mq14, mq15, mq16, mq17, mn1, mn2, mn3, mn4, mn5, mn6, mn7, mn8, mn9, mn10, mn11, mn12, mn13, mn14, mn15, mn16, mn17⟩ := hD
        simp (disch := first | assumption | omega) only [f_X10_whose, litM, grd_t, grd_T, ldI_t, stI_t, ldA_t, stA_t, lenA_t, n_lt_t, n_lt_f, n_le_t, n_le_f, n_eq_t, n_eq_f, if_true, if_false, nI_add, nI_mul, bt_d, bI_z, bI_o, Option.bind_some, Bool.true_eq_false, Bool.false_eq_true, ldR, eq_self, if_true, Option.bind_some, isT X2 Y1 k1, bnd2, s10_isKey hD' h0 (kof Y1), hk, bI_t, s10_isColumn hD' h0 (hof Y1), hc, m0, m8, k5]
