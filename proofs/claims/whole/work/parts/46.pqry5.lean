/-! ===== conflict, difference ===== -/
theorem kinds_ok : ∀ id, id < 316 → f_X1_choicesOf (nI id) = f_X10_choicesOf (f_X1_kindOf (nI id)) := by decide +kernel
theorem q_conflict {σ : Sh} {X : Mx} {a L R z : Nat} {x y : Int32} (h : IV σ X a L R) : Qry σ a L R (f_X9_conflict σ X z a x y) (fun X2 => f_X10_conflict σ X2 (a + 108) x y) := by
  have hs := h.1
  have o0 := hs.1.1.1
  have hD := hs.md
  have m0 := hD.1
  have hG := hs.mg
  obtain ⟨X1, e1, h1, hM, hF, hF2⟩ := fresh h
  have key : ∀ X2 : Mx, X2.1 = X1.1 → ∃ Y1 n, f_X10_merges σ (sI X2 (a + 108) 0 (nI 0)) (a + 108) (nI 0) = some Y1 ∧ FrY (sI X2 (a + 108) 0 (nI 0)) Y1 (a + 108) ∧ n ≤ 299 ∧ MR n (X1.1 (a + 17)) (X1.1 L 0) (X1.1 R 0) X1.1 (a + 18) Y1.1 (a + 108) := fun X2 e2 => hM σ _ hD (fun j _ => by rw [th_r, e2])
  obtain ⟨Y0, n, _, _, hn, hMR⟩ := key X1 rfl
  have hz : X1.1 (a + 18) 2 = nI n := hMR.2.1.1
  have hx1 : ∀ (Y1 : Mx) (n' : Nat), MR n' (X1.1 (a + 17)) (X1.1 L 0) (X1.1 R 0) X1.1 (a + 18) Y1.1 (a + 108) → n' ≤ 299 → n' = n := fun Y1 n' q hn' => (nI_eq (by omega) (by omega)).mp (q.2.1.1.symm.trans hz)
  have gk := hG.1
  have no : (∀ z, f_X9_conflict σ X z a x y = some (.inr 0, σ, X1, 1, 6)) → (∀ X2 Y1 : Mx, X2.1 = X1.1 → f_X10_merges σ (sI X2 (a + 108) 0 (nI 0)) (a + 108) (nI 0) = some Y1 → Y1.1 (a + 108) 22 = nI n → Y1.1 (a + 108) 0 = nI 0 → f_X10_conflict σ X2 (a + 108) x y = some (nI 0, sI Y1 (a + 108) 0 (nI 1))) → Qry σ a L R (f_X9_conflict σ X z a x y) (fun X2 => f_X10_conflict σ X2 (a + 108) x y) := by
    intro hc hf
    refine ⟨.inr 0, X1, 1, 6, hc z, by omega, by omega, h1, fun X2 e2 => ?_⟩
    obtain ⟨Y1, n', k1, k2, k3, k4⟩ := key X2 e2
    have := hx1 Y1 n' k4 k3
    subst this
    have h0 : Y1.1 (a + 108) 0 = nI 0 := (k2.2.2 0 (by omega) (by omega) (by omega)).trans sI_eq
    exact ⟨nI 0, _, hf X2 Y1 e2 k1 k4.2.1.2.1 h0, ((FrQ.fld (by omega)).trans k2.q).trans (FrQ.fld (by omega)), Or.inr ⟨0, rfl, by omega, sI_eq⟩⟩
  rcases i32_cases x n (by omega) with ⟨i, hi, rfl⟩ | hi | ⟨hi, hi2⟩
  · cases hy : inR 5 y with
    | false =>
      refine no (fun z => ?_) (fun X2 Y1 e2 k1 k2 h0 => ?_)
      · have nn := inR_f (by omega) hy
        have hG' := hG
        obtain ⟨g0, g1, g2, g3, g4, g5, g6, gT, k5, l5, k6, l6, k7, l7, k8, l8, k9, l9⟩ := hG
        simp (disch := first | assumption | omega) only [f_X9_conflict, litM, grd_t, grd_T, ldI_t, stI_t, ldA_t, stA_t, lenA_t, n_lt_t, n_lt_f, n_le_t, n_le_f, n_eq_t, n_eq_f, if_true, if_false, nI_add, nI_mul, bt_d, bI_z, bI_o, Option.bind_some, Bool.true_eq_false, Bool.false_eq_true, ldR, eq_self, if_true, Option.bind_some, e1, bnd2, hz, g0, g3, nn 0 (by omega), nn 1 (by omega), nn 2 (by omega), nn 3 (by omega), nn 4 (by omega), nn 5 (by omega)]
      · simp (disch := first | assumption | omega) only [f_X10_conflict, f_X10_conflict_27, f_X10_conflict_28, litM, grd_t, grd_T, ldI_t, stI_t, ldA_t, stA_t, lenA_t, n_lt_t, n_lt_f, n_le_t, n_le_f, n_eq_t, n_eq_f, if_true, if_false, nI_add, nI_mul, bt_d, bI_z, bI_o, Option.bind_some, Bool.true_eq_false, Bool.false_eq_true, k1, k2, s10_rt hD h0 (Or.inl rfl), bnd2, s10_isWhat hD h0, hy, bI_f]
    | true =>
      obtain ⟨u, hu, rfl⟩ := inR_ex (by omega) hy
      have yes : ∀ v : Int32, f_X9_conflict σ X z a (nI i) (nI u) = some (.inl v, σ, X1, 0, 0) → (∀ X2 Y1 : Mx, f_X10_merges σ (sI X2 (a + 108) 0 (nI 0)) (a + 108) (nI 0) = some Y1 → Y1.1 (a + 108) 22 = nI n → Y1.1 (a + 108) 0 = nI 0 → (∃ id, okI id ∧ X1.1 (a + 18 + 6) i = nI id ∧ Y1.1 (a + 108 + 10) (5 * i) = f_X1_kindOf (nI id) ∧ Y1.1 (a + 108 + 10) (5 * i + 1) = f_X1_firstOf (nI id) ∧ Y1.1 (a + 108 + 10) (5 * i + 2) = f_X1_secondOf (nI id) ∧ X1.1 (a + 18 + 7) i = Y1.1 (a + 108 + 10) (5 * i + 3) ∧ X1.1 (a + 18 + 8) i = Y1.1 (a + 108 + 10) (5 * i + 4)) → f_X10_conflict σ X2 (a + 108) (nI i) (nI u) = some (v, Y1)) → Qry σ a L R (f_X9_conflict σ X z a (nI i) (nI u)) (fun X2 => f_X10_conflict σ X2 (a + 108) (nI i) (nI u)) := by
        intro v hc hf
        refine ⟨.inl v, X1, 0, 0, hc, by omega, by omega, h1, fun X2 e2 => ?_⟩
        obtain ⟨Y1, n', k1, k2, k3, k4⟩ := key X2 e2
        have := hx1 Y1 n' k4 k3
        subst this
        have h0 : Y1.1 (a + 108) 0 = nI 0 := (k2.2.2 0 (by omega) (by omega) (by omega)).trans sI_eq
        exact ⟨v, Y1, hf X2 Y1 k1 k4.2.1.2.1 h0 (k4.2.1.2.2 i hi), (FrQ.fld (by omega)).trans k2.q, Or.inl ⟨v, rfl, h0, rfl⟩⟩
      have hD' := hD
      obtain ⟨g0, g1, g2, g3, g4, g5, g6, gT, k5, l5, k6, l6, k7, l7, k8, l8, k9, l9⟩ := hG
      obtain ⟨m0, m1, m2, m3, m4, m5, m6, m7, m8, m9, m10, m11, m12, m13, m14, m15, m16, m17, mq1, mq2, mq3, mq4, mq5, mq6, mq7, mq8, mq9, mq10, mq11, mq12, mq13, mq14, mq15, mq16, mq17, mn1, mn2, mn3, mn4, mn5, mn6, mn7, mn8, mn9, mn10, mn11, mn12, mn13, mn14, mn15, mn16, mn17⟩ := hD
      rcases (show u = 0 ∨ u = 1 ∨ u = 2 ∨ u = 3 ∨ u = 4 ∨ u = 5 by omega) with rfl | rfl | rfl | rfl | rfl | rfl
      · refine yes (f_X1_kindOf (X1.1 (a + 18 + 6) i)) ?_ (fun X2 Y1 k1 k5 h0 ⟨id, i1, i2, i3, i4, i5, i6, i7⟩ => ?_)
        · simp (disch := first | assumption | omega) only [f_X9_conflict, litM, grd_t, grd_T, ldI_t, stI_t, ldA_t, stA_t, lenA_t, n_lt_t, n_lt_f, n_le_t, n_le_f, n_eq_t, n_eq_f, if_true, if_false, nI_add, nI_mul, bt_d, bI_z, bI_o, Option.bind_some, Bool.true_eq_false, Bool.false_eq_true, ldR, eq_self, if_true, Option.bind_some, e1, bnd2, hz, g0, g3]
        · rw [i2, ← i3]
          simp (disch := first | assumption | omega) only [f_X10_conflict, f_X10_conflict_28, litM, grd_t, grd_T, ldI_t, stI_t, ldA_t, stA_t, lenA_t, n_lt_t, n_lt_f, n_le_t, n_le_f, n_eq_t, n_eq_f, if_true, if_false, nI_add, nI_mul, bt_d, bI_z, bI_o, Option.bind_some, Bool.true_eq_false, Bool.false_eq_true, ldR, eq_self, if_true, Option.bind_some, k1, k5, s10_rt hD' h0 (Or.inl rfl), bnd2, s10_isWhat hD' h0, hy, bI_t, m0, m10, Nat.add_zero]
      · refine yes (f_X1_firstOf (X1.1 (a + 18 + 6) i)) ?_ (fun X2 Y1 k1 k5 h0 ⟨id, i1, i2, i3, i4, i5, i6, i7⟩ => ?_)
        · simp (disch := first | assumption | omega) only [f_X9_conflict, litM, grd_t, grd_T, ldI_t, stI_t, ldA_t, stA_t, lenA_t, n_lt_t, n_lt_f, n_le_t, n_le_f, n_eq_t, n_eq_f, if_true, if_false, nI_add, nI_mul, bt_d, bI_z, bI_o, Option.bind_some, Bool.true_eq_false, Bool.false_eq_true, ldR, eq_self, if_true, Option.bind_some, e1, bnd2, hz, g0, g3]
        · rw [i2, ← i4]
          simp (disch := first | assumption | omega) only [f_X10_conflict, f_X10_conflict_28, litM, grd_t, grd_T, ldI_t, stI_t, ldA_t, stA_t, lenA_t, n_lt_t, n_lt_f, n_le_t, n_le_f, n_eq_t, n_eq_f, if_true, if_false, nI_add, nI_mul, bt_d, bI_z, bI_o, Option.bind_some, Bool.true_eq_false, Bool.false_eq_true, ldR, eq_self, if_true, Option.bind_some, k1, k5, s10_rt hD' h0 (Or.inl rfl), bnd2, s10_isWhat hD' h0, hy, bI_t, m0, m10]
      · refine yes (f_X1_secondOf (X1.1 (a + 18 + 6) i)) ?_ (fun X2 Y1 k1 k5 h0 ⟨id, i1, i2, i3, i4, i5, i6, i7⟩ => ?_)
        · simp (disch := first | assumption | omega) only [f_X9_conflict, litM, grd_t, grd_T, ldI_t, stI_t, ldA_t, stA_t, lenA_t, n_lt_t, n_lt_f, n_le_t, n_le_f, n_eq_t, n_eq_f, if_true, if_false, nI_add, nI_mul, bt_d, bI_z, bI_o, Option.bind_some, Bool.true_eq_false, Bool.false_eq_true, ldR, eq_self, if_true, Option.bind_some, e1, bnd2, hz, g0, g3]
        · rw [i2, ← i5]
          simp (disch := first | assumption | omega) only [f_X10_conflict, f_X10_conflict_28, litM, grd_t, grd_T, ldI_t, stI_t, ldA_t, stA_t, lenA_t, n_lt_t, n_lt_f, n_le_t, n_le_f, n_eq_t, n_eq_f, if_true, if_false, nI_add, nI_mul, bt_d, bI_z, bI_o, Option.bind_some, Bool.true_eq_false, Bool.false_eq_true, ldR, eq_self, if_true, Option.bind_some, k1, k5, s10_rt hD' h0 (Or.inl rfl), bnd2, s10_isWhat hD' h0, hy, bI_t, m0, m10]
      · refine yes (X1.1 (a + 18 + 7) i) ?_ (fun X2 Y1 k1 k5 h0 ⟨id, i1, i2, i3, i4, i5, i6, i7⟩ => ?_)
        · simp (disch := first | assumption | omega) only [f_X9_conflict, litM, grd_t, grd_T, ldI_t, stI_t, ldA_t, stA_t, lenA_t, n_lt_t, n_lt_f, n_le_t, n_le_f, n_eq_t, n_eq_f, if_true, if_false, nI_add, nI_mul, bt_d, bI_z, bI_o, Option.bind_some, Bool.true_eq_false, Bool.false_eq_true, ldR, eq_self, if_true, Option.bind_some, e1, bnd2, hz, g0, g3, g4]
        · rw [i6]
          simp (disch := first | assumption | omega) only [f_X10_conflict, f_X10_conflict_28, litM, grd_t, grd_T, ldI_t, stI_t, ldA_t, stA_t, lenA_t, n_lt_t, n_lt_f, n_le_t, n_le_f, n_eq_t, n_eq_f, if_true, if_false, nI_add, nI_mul, bt_d, bI_z, bI_o, Option.bind_some, Bool.true_eq_false, Bool.false_eq_true, ldR, eq_self, if_true, Option.bind_some, k1, k5, s10_rt hD' h0 (Or.inl rfl), bnd2, s10_isWhat hD' h0, hy, bI_t, m0, m10]
      · refine yes (X1.1 (a + 18 + 8) i) ?_ (fun X2 Y1 k1 k5 h0 ⟨id, i1, i2, i3, i4, i5, i6, i7⟩ => ?_)
        · simp (disch := first | assumption | omega) only [f_X9_conflict, litM, grd_t, grd_T, ldI_t, stI_t, ldA_t, stA_t, lenA_t, n_lt_t, n_lt_f, n_le_t, n_le_f, n_eq_t, n_eq_f, if_true, if_false, nI_add, nI_mul, bt_d, bI_z, bI_o, Option.bind_some, Bool.true_eq_false, Bool.false_eq_true, ldR, eq_self, if_true, Option.bind_some, e1, bnd2, hz, g0, g3, g5]
        · rw [i7]
          simp (disch := first | assumption | omega) only [f_X10_conflict, f_X10_conflict_28, litM, grd_t, grd_T, ldI_t, stI_t, ldA_t, stA_t, lenA_t, n_lt_t, n_lt_f, n_le_t, n_le_f, n_eq_t, n_eq_f, if_true, if_false, nI_add, nI_mul, bt_d, bI_z, bI_o, Option.bind_some, Bool.true_eq_false, Bool.false_eq_true, ldR, eq_self, if_true, Option.bind_some, k1, k5, s10_rt hD' h0 (Or.inl rfl), bnd2, s10_isWhat hD' h0, hy, bI_t, m0, m10]
      · refine yes (f_X1_choicesOf (X1.1 (a + 18 + 6) i)) ?_ (fun X2 Y1 k1 k5 h0 ⟨id, i1, i2, i3, i4, i5, i6, i7⟩ => ?_)
        · simp (disch := first | assumption | omega) only [f_X9_conflict, litM, grd_t, grd_T, ldI_t, stI_t, ldA_t, stA_t, lenA_t, n_lt_t, n_lt_f, n_le_t, n_le_f, n_eq_t, n_eq_f, if_true, if_false, nI_add, nI_mul, bt_d, bI_z, bI_o, Option.bind_some, Bool.true_eq_false, Bool.false_eq_true, ldR, eq_self, if_true, Option.bind_some, e1, bnd2, hz, g0, g3]
        · rw [i2, kinds_ok id i1.1, ← i3]
          simp (disch := first | assumption | omega) only [f_X10_conflict, f_X10_conflict_28, litM, grd_t, grd_T, ldI_t, stI_t, ldA_t, stA_t, lenA_t, n_lt_t, n_lt_f, n_le_t, n_le_f, n_eq_t, n_eq_f, if_true, if_false, nI_add, nI_mul, bt_d, bI_z, bI_o, Option.bind_some, Bool.true_eq_false, Bool.false_eq_true, ldR, eq_self, if_true, Option.bind_some, k1, k5, s10_rt hD' h0 (Or.inl rfl), bnd2, s10_isWhat hD' h0, hy, bI_t, m0, m10]
  · refine no (fun z => ?_) (fun X2 Y1 e2 k1 k2 h0 => ?_)
    · simp (disch := first | assumption | omega) only [f_X9_conflict, litM, grd_t, grd_T, ldI_t, stI_t, ldA_t, stA_t, lenA_t, n_lt_t, n_lt_f, n_le_t, n_le_f, n_eq_t, n_eq_f, if_true, if_false, nI_add, nI_mul, bt_d, bI_z, bI_o, Option.bind_some, Bool.true_eq_false, Bool.false_eq_true, e1, bnd2, hi, f_X9_conflict_17]
    · simp (disch := first | assumption | omega) only [f_X10_conflict, f_X10_conflict_27, f_X10_conflict_28, litM, grd_t, grd_T, ldI_t, stI_t, ldA_t, stA_t, lenA_t, n_lt_t, n_lt_f, n_le_t, n_le_f, n_eq_t, n_eq_f, if_true, if_false, nI_add, nI_mul, bt_d, bI_z, bI_o, Option.bind_some, Bool.true_eq_false, Bool.false_eq_true, k1, hi, s10_rf hD h0 (Or.inl rfl), bnd2]
  · refine no (fun z => ?_) (fun X2 Y1 e2 k1 k2 h0 => ?_)
    · simp (disch := first | assumption | omega) only [f_X9_conflict, litM, grd_t, grd_T, ldI_t, stI_t, ldA_t, stA_t, lenA_t, n_lt_t, n_lt_f, n_le_t, n_le_f, n_eq_t, n_eq_f, if_true, if_false, nI_add, nI_mul, bt_d, bI_z, bI_o, Option.bind_some, Bool.true_eq_false, Bool.false_eq_true, e1, bnd2, hi, hz, n_nlt4 hi2, f_X9_conflict_17]
    · simp (disch := first | assumption | omega) only [f_X10_conflict, f_X10_conflict_27, f_X10_conflict_28, litM, grd_t, grd_T, ldI_t, stI_t, ldA_t, stA_t, lenA_t, n_lt_t, n_lt_f, n_le_t, n_le_f, n_eq_t, n_eq_f, if_true, if_false, nI_add, nI_mul, bt_d, bI_z, bI_o, Option.bind_some, Bool.true_eq_false, Bool.false_eq_true, k1, k2, hi, hi2, s10_rf hD h0 (Or.inl rfl), bnd2]

theorem s_countChanged {σ : Sh} {X : Mx} {s L R t : Nat} (hs : stOK σ s L R) (ht : t < 2) : f_X5_countChanged σ X s (nI t) = some (nI (cntB (fun j => (bt (X.1 (s + 1) 1) (j / 9) && bt (X.1 (s + 1) 0) (j % 9)) && cChg X.1 (s + 1) (sd t L R) (j / 9) (j % 9)) (9 * 20))) := by
  unfold f_X5_countChanged
  have hs' := hs
  obtain ⟨s0, s1, s2, s3, s4, s5, s6, s7, s8, s9, s10, s11, s12, s13, s14, s15, s16, s17, s18⟩ := hs
  rw [grd_t s0]
  have := cnt_loop2 (F := fun n x k => f_X5_countChanged_4 σ X s (nI t) n x (nI k)) (G := fun n k i x c => f_X5_countChanged_13 (f_X5_countChanged_4 σ X s (nI t) n) σ X s (nI t) (nI k) i x (nI c)) (K := 20) (C := 9) (p := fun k c => (bt (X.1 (s + 1) 1) k && bt (X.1 (s + 1) 0) c) && cChg X.1 (s + 1) (sd t L R) k c) (by
    intro n x k hk
    show f_X5_countChanged_4 σ X s (nI t) (n + 1) (nI x) (nI k) = _
    rw [f_X5_countChanged_4]
    simp (disch := first | assumption | omega) only [litM, grd_t, grd_T, ldI_t, stI_t, ldA_t, stA_t, lenA_t, n_lt_t, n_lt_f, n_le_t, n_le_f, n_eq_t, n_eq_f, if_true, if_false, nI_add, nI_mul, bt_d, bI_z, bI_o, Option.bind_some, Bool.true_eq_false, Bool.false_eq_true]) (by
    intro n k i x c hk hc
    show f_X5_countChanged_13 (f_X5_countChanged_4 σ X s (nI t) n) σ X s (nI t) (nI k) (i + 1) (nI x) (nI c) = _
    rw [f_X5_countChanged_13]
    simp (disch := first | assumption | omega) only [litM, grd_t, grd_T, ldI_t, stI_t, ldA_t, stA_t, lenA_t, n_lt_t, n_lt_f, n_le_t, n_le_f, n_eq_t, n_eq_f, if_true, if_false, nI_add, nI_mul, bt_d, bI_z, bI_o, Option.bind_some, Bool.true_eq_false, Bool.false_eq_true, ldR, eq_self, if_true, Option.bind_some, s0, s1, s_hasCell s8, inB_n, s_isChanged hs', f_X5_countChanged_47]
    cases (bt (X.1 (s + 1) 1) k && bt (X.1 (s + 1) 0) c)
    · simp
    · cases cChg X.1 (s + 1) (sd t L R) k c <;> simp) (by
    intro n k i x hk
    show f_X5_countChanged_13 (f_X5_countChanged_4 σ X s (nI t) n) σ X s (nI t) (nI k) (i + 1) (nI x) (nI 9) = _
    rw [f_X5_countChanged_13]
    simp (disch := first | assumption | omega) only [litM, grd_t, grd_T, ldI_t, stI_t, ldA_t, stA_t, lenA_t, n_lt_t, n_lt_f, n_le_t, n_le_f, n_eq_t, n_eq_f, if_true, if_false, nI_add, nI_mul, bt_d, bI_z, bI_o, Option.bind_some, Bool.true_eq_false, Bool.false_eq_true]) (by
    intro n x
    show f_X5_countChanged_4 σ X s (nI t) (n + 1) (nI x) (nI 20) = _
    rw [f_X5_countChanged_4]; exact if_pos (Int32.le_refl _)) (by omega) (by rw [FU_40000]; omega) FU 0 (by omega) (by rw [FU_40000]; omega)
  exact this
theorem s10_changedCells {τ : Sh} {Y : Mx} {m t : Nat} (hm : mdOK τ m) (ht : t < 2) : f_X10_changedCells τ Y m (nI t) = some (nI (cntB (fun j => bt (Y.1 (m + 3) (0 + 200 * 2 + 1)) (j / 5) && bt (Y.1 (m + 3) (0 + 200 * 2)) (j % 5) && rChg (Y.1 (m + 3)) 0 t (j / 5) (j % 5)) (5 * 20))) := by
  unfold f_X10_changedCells
  rw [grd_t hm.1]
  have r2 : ∀ k, k < 20 → f_X10_hasRow τ Y m (nI 0) (nI 2) (nI k) = some (bI (bt (Y.1 (m + 3) (0 + 200 * 2 + 1)) k)) := fun k hk => by rw [s10_hasRow hm (by omega) (by omega), inB_n hk (by omega)]
  have c2 : ∀ c, c < 9 → f_X10_hasColumn τ Y m (nI 0) (nI 2) (nI c) = some (bI (bt (Y.1 (m + 3) (0 + 200 * 2)) c)) := fun c hc => by rw [s10_hasColumn hm (by omega) (by omega), inB_n hc (by omega)]
  have ch : ∀ k c, k < 20 → c < 9 → f_X10_isChanged τ Y m (nI 0) (nI t) (nI k) (nI c) = some (bI (rChg (Y.1 (m + 3)) 0 t k c)) := fun k c hk hc => s10_isChanged hm (by omega) (by omega) hk hc
  have := cnt_loop2 (F := fun n x k => f_X10_changedCells_4 τ Y m (nI t) n x (nI k)) (G := fun n k i x c => f_X10_changedCells_13 (f_X10_changedCells_4 τ Y m (nI t) n) τ Y m (nI t) (nI k) i x (nI c)) (K := 20) (C := 5) (p := fun k c => bt (Y.1 (m + 3) (0 + 200 * 2 + 1)) k && bt (Y.1 (m + 3) (0 + 200 * 2)) c && rChg (Y.1 (m + 3)) 0 t k c) (by
    intro n x k hk
    show f_X10_changedCells_4 τ Y m (nI t) (n + 1) (nI x) (nI k) = _
    rw [f_X10_changedCells_4]
    simp (disch := first | assumption | omega) only [litM, grd_t, grd_T, ldI_t, stI_t, ldA_t, stA_t, lenA_t, n_lt_t, n_lt_f, n_le_t, n_le_f, n_eq_t, n_eq_f, if_true, if_false, nI_add, nI_mul, bt_d, bI_z, bI_o, Option.bind_some, Bool.true_eq_false, Bool.false_eq_true]) (by
    intro n k i x c hk hc
    show f_X10_changedCells_13 (f_X10_changedCells_4 τ Y m (nI t) n) τ Y m (nI t) (nI k) (i + 1) (nI x) (nI c) = _
    rw [f_X10_changedCells_13]
    simp (disch := first | assumption | omega) only [litM, n_le_f, if_false, nI_add, f_X10_changedCells_57, f_X10_changedCells_58, r2, c2, ch, Option.bind_some, bI_z]
    cases bt (Y.1 (m + 3) (0 + 200 * 2 + 1)) k
    · simp
    · cases bt (Y.1 (m + 3) (0 + 200 * 2)) c
      · simp
      · cases rChg (Y.1 (m + 3)) 0 t k c <;> simp) (by
    intro n k i x hk
    show f_X10_changedCells_13 (f_X10_changedCells_4 τ Y m (nI t) n) τ Y m (nI t) (nI k) (i + 1) (nI x) (nI 5) = _
    rw [f_X10_changedCells_13]
    simp (disch := first | assumption | omega) only [litM, grd_t, grd_T, ldI_t, stI_t, ldA_t, stA_t, lenA_t, n_lt_t, n_lt_f, n_le_t, n_le_f, n_eq_t, n_eq_f, if_true, if_false, nI_add, nI_mul, bt_d, bI_z, bI_o, Option.bind_some, Bool.true_eq_false, Bool.false_eq_true]) (by
    intro n x
    show f_X10_changedCells_4 τ Y m (nI t) (n + 1) (nI x) (nI 20) = _
    rw [f_X10_changedCells_4]; exact if_pos (Int32.le_refl _)) (by omega) (by rw [FU_40000]; omega) FU 0 (by omega) (by rw [FU_40000]; omega)
  exact this
