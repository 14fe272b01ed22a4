set_option maxHeartbeats 8000000 in
theorem q_count {σ : Sh} {X : Mx} {a L R z : Nat} {x : Int32} (h : IV σ X a L R) : Qry σ a L R (f_X9_count σ X z a x) (fun X2 => f_X10_count σ X2 (a + 108) x) := by
  have hs := h.1
  obtain ⟨⟨⟨o0, o1, o2, o3, o4, o5, o6, o7, o8, o9, o10⟩, oM, oT, oA, oS, oQ, oI, oA2, oS2, oR, oD, oO⟩, hst, hsl, hsh⟩ := id hs
  have hcx := h.2.1
  have hS := hcx.1
  have m0 := oD.1
  have lowB : low 9 (X.1 (a + 1 + 1) 0) := hS.2.2.1.2.2.1
  have lowK : low 20 (X.1 (a + 1 + 1) 1) := hS.2.2.1.2.2.2.1
  have eB0 : X.1 (a + 111) 400 = X.1 (a + 1 + 1) 0 := hS.2.2.1.1.symm
  have eB1 : X.1 (a + 111) 401 = X.1 (a + 1 + 1) 1 := hS.2.2.1.2.1.symm
  -- where the class makes no merge
  have fin0 : ∀ (k : Nat) (v : Int32), f_X9_count σ X z a (nI k) = some (.inl v, σ, X, 0, 0) → (∀ X2 Y1 : Mx, X2.1 = X.1 → f_X10_merges σ (sI X2 (a + 108) 0 (nI 0)) (a + 108) (nI 0) = some Y1 → Y1.1 (a + 108 + 3) = X.1 (a + 111) → Y1.1 (a + 108 + 2) = X.1 (a + 110) → (∀ j, j ≠ 0 → j ≠ 20 → j ≠ 21 → j ≠ 22 → Y1.1 (a + 108) j = X.1 (a + 108) j) → f_X10_count σ X2 (a + 108) (nI k) = some (v, Y1)) → Qry σ a L R (f_X9_count σ X z a (nI k)) (fun X2 => f_X10_count σ X2 (a + 108) (nI k)) := by
    intro k v hc hf
    refine ⟨.inl v, X, 0, 0, hc, by omega, by omega, h, fun X2 e2 => ?_⟩
    obtain ⟨Y1, k1, k2⟩ := mrg (τ := σ) (Y := sI X2 (a + 108) 0 (nI 0)) h oD (fun j _ => by rw [th_r, e2])
    refine ⟨v, Y1, hf X2 Y1 e2 k1 ?_ ?_ ?_, (FrQ.fld (by omega)).trans k2.q, Or.inl ⟨v, rfl, (k2.2.2 0 (by omega) (by omega) (by omega)).trans sI_eq, rfl⟩⟩
    · rw [k2.2.1 _ (by omega) (by omega), sI_ne (by omega), e2]
    · rw [k2.2.1 _ (by omega) (by omega), sI_ne (by omega), e2]
    · intro j j0 j1 j2 j3
      rw [k2.2.2 j j1 j2 j3, sI_nk j0, e2]
  -- where it does
  obtain ⟨X1, f1, h1, hM, hF, hF2⟩ := fresh h
  have fin1 : ∀ (k : Nat) (v : Int32), f_X9_count σ X z a (nI k) = some (.inl v, σ, X1, 0, 0) → (∀ (X2 Y1 : Mx) (n : Nat), X2.1 = X1.1 → f_X10_merges σ (sI X2 (a + 108) 0 (nI 0)) (a + 108) (nI 0) = some Y1 → Y1.1 (a + 108 + 3) = X.1 (a + 111) → MR n (X1.1 (a + 17)) (X1.1 L 0) (X1.1 R 0) X1.1 (a + 18) Y1.1 (a + 108) → f_X10_count σ X2 (a + 108) (nI k) = some (v, Y1)) → Qry σ a L R (f_X9_count σ X z a (nI k)) (fun X2 => f_X10_count σ X2 (a + 108) (nI k)) := by
    intro k v hc hf
    refine ⟨.inl v, X1, 0, 0, hc, by omega, by omega, h1, fun X2 e2 => ?_⟩
    obtain ⟨Y1, n, k1, k2, k3, k4⟩ := hM σ (sI X2 (a + 108) 0 (nI 0)) oD (fun j _ => by rw [th_r, e2])
    refine ⟨v, Y1, hf X2 Y1 n e2 k1 ?_ k4, (FrQ.fld (by omega)).trans k2.q, Or.inl ⟨v, rfl, (k2.2.2 0 (by omega) (by omega) (by omega)).trans sI_eq, rfl⟩⟩
    rw [k2.2.1 _ (by omega) (by omega), sI_ne (by omega), e2]
    exact hF2 _ (by omega) (by omega)
  obtain ⟨tp, t1, t2, t3, t4⟩ := hcx.2.1
  obtain ⟨ka, fa, a1, a2, a3, a4, a5, a6⟩ := hcx.2.2.1
  obtain ⟨ks, b1, b2, b3, b4⟩ := hcx.2.2.2.1
  obtain ⟨dd, d1, d2, d3, d4⟩ := hS.2.2.2.2.2.2.1
  have d3 : X.1 (a + 111) 600 = nI dd := d3
  have hrf := hcx.2.2.2.2.2.2.1
  cases hx : inR 14 x with
  | false =>
    refine ⟨.inr 0, X, 1, 6, ?_, by omega, by omega, h, fun X2 e2 => ?_⟩
    · have nn := inR_f (by omega) hx
      simp (disch := first | assumption | omega) only [f_X9_count, litM, grd_t, nn 0 (by omega), nn 1 (by omega), nn 2 (by omega), nn 3 (by omega), nn 4 (by omega), nn 5 (by omega), nn 6 (by omega), nn 7 (by omega), nn 8 (by omega), nn 9 (by omega), nn 10 (by omega), nn 11 (by omega), nn 12 (by omega), nn 13 (by omega), nn 14 (by omega), if_false]
    · refine ⟨nI 0, sI (sI X2 (a + 108) 0 (nI 0)) (a + 108) 0 (nI 1), ?_, (FrQ.fld (by omega)).trans (FrQ.fld (by omega)), Or.inr ⟨0, rfl, by omega, sI_eq⟩⟩
      show f_X10_count σ X2 (a + 108) x = _
      unfold f_X10_count
      rw [grd_t m0, stI_t m0]
      have e1 : f_X10_within x 0 14 = nI 0 := by
        rw [show f_X10_within x 0 14 = f_X10_within x (nI 0) (nI 14) from rfl, s_win (by omega), hx]; rfl
      rw [e1, show f_X10_right σ (sI X2 (a + 108) 0 0) (a + 108) (nI 0) 1 = some (nI 0, sI (sI X2 (a + 108) 0 (nI 0)) (a + 108) 0 (nI 1)) from s10_rf oD th_0 (Or.inl rfl), bnd2_some]
      exact if_pos rfl
  | true =>
    obtain ⟨k, hk, rfl⟩ := inR_ex (by omega) hx
    clear hx
    have oM' := oM
    have oD' := oD
    have hst' := hst
    obtain ⟨r0, r1⟩ := oR
    obtain ⟨s0, s1, s2, s3, s4, s5, s6, s7, s8, s9, s10, s11, s12, s13, s14, s15, s16, s17, s18⟩ := hst
    obtain ⟨m0, m1, m2, m3, m4, m5, m6, m7, m8, m9, m10, m11, m12, m13, m14, m15, m16, m17, mq1, mq2, mq3, mq4, mq5, mq6, mq7, mq8, mq9, mq10, mq11, mq12, mq13, mq14, mq15, mq16, mq17, mn1, mn2, mn3, mn4, mn5, mn6, mn7, mn8, mn9, mn10, mn11, mn12, mn13, mn14, mn15, mn16, mn17⟩ := oD
    have hB5 := s8.1
    rcases (show k = 0 ∨ k = 1 ∨ k = 2 ∨ k = 3 ∨ k = 4 ∨ k = 5 ∨ k = 6 ∨ k = 7 ∨ k = 8 ∨ k = 9 ∨ k = 10 ∨ k = 11 ∨ k = 12 ∨ k = 13 ∨ k = 14 by omega) with rfl | rfl | rfl | rfl | rfl | rfl | rfl | rfl | rfl | rfl | rfl | rfl | rfl | rfl | rfl
    · refine fin0 0 (nI (cnt 20 (X.1 (a + 1 + 1) 0))) ?_ (fun X2 Y1 e2 k1 k2 k3 k4 => ?_)
      · simp (disch := first | assumption | omega) only [f_X9_count, litM, grd_t, grd_T, ldI_t, stI_t, ldA_t, stA_t, lenA_t, n_lt_t, n_lt_f, n_le_t, n_le_f, n_eq_t, n_eq_f, if_true, if_false, nI_add, nI_mul, bt_d, bI_z, bI_o, Option.bind_some, Bool.true_eq_false, Bool.false_eq_true, ldR, eq_self, if_true, Option.bind_some, o0, o1, s0, s1, s8.1, s_bitCount (low_mono lowB (by omega))]
      · simp (disch := first | assumption | omega) only [f_X10_count, litM, grd_t, grd_T, ldI_t, stI_t, ldA_t, stA_t, lenA_t, n_lt_t, n_lt_f, n_le_t, n_le_f, n_eq_t, n_eq_f, if_true, if_false, nI_add, nI_mul, bt_d, bI_z, bI_o, Option.bind_some, Bool.true_eq_false, Bool.false_eq_true, ldR, eq_self, if_true, Option.bind_some, m0, m3, s_win, inR_t, bI_t, s10_rt oD' th_0 (Or.inl rfl), bnd2, k1, k2, eB0, s_bits]
    · refine fin0 1 (nI (cnt 20 (X.1 (a + 1 + 1) 1))) ?_ (fun X2 Y1 e2 k1 k2 k3 k4 => ?_)
      · simp (disch := first | assumption | omega) only [f_X9_count, litM, grd_t, grd_T, ldI_t, stI_t, ldA_t, stA_t, lenA_t, n_lt_t, n_lt_f, n_le_t, n_le_f, n_eq_t, n_eq_f, if_true, if_false, nI_add, nI_mul, bt_d, bI_z, bI_o, Option.bind_some, Bool.true_eq_false, Bool.false_eq_true, ldR, eq_self, if_true, Option.bind_some, o0, o1, s0, s1, s8.1, s_bitCount lowK]
      · simp (disch := first | assumption | omega) only [f_X10_count, litM, grd_t, grd_T, ldI_t, stI_t, ldA_t, stA_t, lenA_t, n_lt_t, n_lt_f, n_le_t, n_le_f, n_eq_t, n_eq_f, if_true, if_false, nI_add, nI_mul, bt_d, bI_z, bI_o, Option.bind_some, Bool.true_eq_false, Bool.false_eq_true, ldR, eq_self, if_true, Option.bind_some, m0, m3, s_win, inR_t, bI_t, s10_rt oD' th_0 (Or.inl rfl), bnd2, k1, k2, eB1, s_bits]
    · refine fin0 2 (nI dd) ?_ (fun X2 Y1 e2 k1 k2 k3 k4 => ?_)
      · simp (disch := first | assumption | omega) only [f_X9_count, litM, grd_t, grd_T, ldI_t, stI_t, ldA_t, stA_t, lenA_t, n_lt_t, n_lt_f, n_le_t, n_le_f, n_eq_t, n_eq_f, if_true, if_false, nI_add, nI_mul, bt_d, bI_z, bI_o, Option.bind_some, Bool.true_eq_false, Bool.false_eq_true, ldR, eq_self, if_true, Option.bind_some, o0, o1, s0, d2]
      · simp (disch := first | assumption | omega) only [f_X10_count, litM, grd_t, grd_T, ldI_t, stI_t, ldA_t, stA_t, lenA_t, n_lt_t, n_lt_f, n_le_t, n_le_f, n_eq_t, n_eq_f, if_true, if_false, nI_add, nI_mul, bt_d, bI_z, bI_o, Option.bind_some, Bool.true_eq_false, Bool.false_eq_true, ldR, eq_self, if_true, Option.bind_some, m0, m3, s_win, inR_t, bI_t, s10_rt oD' th_0 (Or.inl rfl), bnd2, k1, k2, d3]
    · refine fin1 3 (f_J6_bitCount_0f7a4 (X1.1 (a + 18 + 1) 0)) ?_ (fun X2 Y1 n e2 k1 k2 k4 => ?_)
      · have := oM'.2.2.2.2.2.2.2.1.1
        simp (disch := first | assumption | omega) only [f_X9_count, litM, grd_t, grd_T, ldI_t, stI_t, ldA_t, stA_t, lenA_t, n_lt_t, n_lt_f, n_le_t, n_le_f, n_eq_t, n_eq_f, if_true, if_false, nI_add, nI_mul, bt_d, bI_z, bI_o, Option.bind_some, Bool.true_eq_false, Bool.false_eq_true, o0, f1, bnd2, ldR_g oM']
      · have e3 := k4.1.1
        have e4 := k4.1.2.2.1
        rw [e3, s_bitCount (low_mono e4 (by omega))]
        simp (disch := first | assumption | omega) only [f_X10_count, litM, grd_t, grd_T, ldI_t, stI_t, ldA_t, stA_t, lenA_t, n_lt_t, n_lt_f, n_le_t, n_le_f, n_eq_t, n_eq_f, if_true, if_false, nI_add, nI_mul, bt_d, bI_z, bI_o, Option.bind_some, Bool.true_eq_false, Bool.false_eq_true, m0, s_win, inR_t, bI_t, s10_rt oD' th_0 (Or.inl rfl), bnd2, k1, s_bits]
    · refine fin1 4 (f_J6_bitCount_0f7a4 (X1.1 (a + 18 + 1) 1)) ?_ (fun X2 Y1 n e2 k1 k2 k4 => ?_)
      · have := oM'.2.2.2.2.2.2.2.1.1
        simp (disch := first | assumption | omega) only [f_X9_count, litM, grd_t, grd_T, ldI_t, stI_t, ldA_t, stA_t, lenA_t, n_lt_t, n_lt_f, n_le_t, n_le_f, n_eq_t, n_eq_f, if_true, if_false, nI_add, nI_mul, bt_d, bI_z, bI_o, Option.bind_some, Bool.true_eq_false, Bool.false_eq_true, o0, f1, bnd2, ldR_g oM']
      · have e3 := k4.1.2.1
        have e4 := k4.1.2.2.2.1
        rw [e3, s_bitCount e4]
        simp (disch := first | assumption | omega) only [f_X10_count, litM, grd_t, grd_T, ldI_t, stI_t, ldA_t, stA_t, lenA_t, n_lt_t, n_lt_f, n_le_t, n_le_f, n_eq_t, n_eq_f, if_true, if_false, nI_add, nI_mul, bt_d, bI_z, bI_o, Option.bind_some, Bool.true_eq_false, Bool.false_eq_true, m0, s_win, inR_t, bI_t, s10_rt oD' th_0 (Or.inl rfl), bnd2, k1, s_bits]
    · refine fin1 5 (X1.1 (a + 18) 2) ?_ (fun X2 Y1 n e2 k1 k2 k4 => ?_)
      · have := oM'.1
        simp (disch := first | assumption | omega) only [f_X9_count, litM, grd_t, grd_T, ldI_t, stI_t, ldA_t, stA_t, lenA_t, n_lt_t, n_lt_f, n_le_t, n_le_f, n_eq_t, n_eq_f, if_true, if_false, nI_add, nI_mul, bt_d, bI_z, bI_o, Option.bind_some, Bool.true_eq_false, Bool.false_eq_true, o0, f1, bnd2]
      · have e3 : X1.1 (a + 18) 2 = Y1.1 (a + 108) 22 := k4.2.1.1.trans k4.2.1.2.1.symm
        rw [e3]
        simp (disch := first | assumption | omega) only [f_X10_count, litM, grd_t, grd_T, ldI_t, stI_t, ldA_t, stA_t, lenA_t, n_lt_t, n_lt_f, n_le_t, n_le_f, n_eq_t, n_eq_f, if_true, if_false, nI_add, nI_mul, bt_d, bI_z, bI_o, Option.bind_some, Bool.true_eq_false, Bool.false_eq_true, m0, s_win, inR_t, bI_t, s10_rt oD' th_0 (Or.inl rfl), bnd2, k1]
    · refine fin0 6 (nI (cntB (fun j => decide (X.1 (a + 1 + 16) j ≠ -(nI 1))) 316)) ?_ (fun X2 Y1 e2 k1 k2 k3 k4 => ?_)
      · simp (disch := first | assumption | omega) only [f_X9_count, litM, grd_t, grd_T, ldI_t, stI_t, ldA_t, stA_t, lenA_t, n_lt_t, n_lt_f, n_le_t, n_le_f, n_eq_t, n_eq_f, if_true, if_false, nI_add, nI_mul, bt_d, bI_z, bI_o, Option.bind_some, Bool.true_eq_false, Bool.false_eq_true, ldR, eq_self, if_true, Option.bind_some, o0, o1, s_countChoices hst']
      · have ec : cntB (fun j => decide (Y1.1 (a + 108 + 3) (615 + j) ≠ -(nI 1))) 316 = cntB (fun j => decide (X.1 (a + 1 + 16) j ≠ -(nI 1))) 316 := cntB_congr (fun j hj => by
          have := (hS.2.2.2.2.2.2.2.2.2 j hj).1
          rw [k2, this, show 0 + 615 + j = 615 + j by omega])
        simp (disch := first | assumption | omega) only [f_X10_count, litM, grd_t, grd_T, ldI_t, stI_t, ldA_t, stA_t, lenA_t, n_lt_t, n_lt_f, n_le_t, n_le_f, n_eq_t, n_eq_f, if_true, if_false, nI_add, nI_mul, bt_d, bI_z, bI_o, Option.bind_some, Bool.true_eq_false, Bool.false_eq_true, m0, s_win, inR_t, bI_t, s10_rt oD' th_0 (Or.inl rfl), bnd2, k1, s10_choicesThere oD', ec]
    · refine fin1 7 (nI (cntB (fun j => decide (X.1 (a + 1 + 16) j ≠ -(nI 1))) 316) - X1.1 (a + 18) 3) ?_ (fun X2 Y1 n e2 k1 k2 k4 => ?_)
      · have := oM'.1
        simp (disch := first | assumption | omega) only [f_X9_count, litM, grd_t, grd_T, ldI_t, stI_t, ldA_t, stA_t, lenA_t, n_lt_t, n_lt_f, n_le_t, n_le_f, n_eq_t, n_eq_f, if_true, if_false, nI_add, nI_mul, bt_d, bI_z, bI_o, Option.bind_some, Bool.true_eq_false, Bool.false_eq_true, ldR, eq_self, if_true, Option.bind_some, o0, o1, s_countChoices hst', f1, bnd2]
      · have ec : cntB (fun j => decide (Y1.1 (a + 108 + 3) (615 + j) ≠ -(nI 1)) && !decide (Y1.1 (a + 108 + 11) j = nI 1)) 316 = cntB (fun j => decide (X.1 (a + 1 + 16) j ≠ -(nI 1)) && !decide (Y1.1 (a + 108 + 11) j = nI 1)) 316 := cntB_congr (fun j hj => by
          have := (hS.2.2.2.2.2.2.2.2.2 j hj).1
          rw [k2, this, show 0 + 615 + j = 615 + j by omega])
        have e17 : X1.1 (a + 17) = X.1 (a + 1 + 16) := hF2 (a + 17) (by omega) (by omega)
        have hu := k4.2.2.1.1
        rw [e17] at hu
        have hsp := cntB_split (fun j => decide (X.1 (a + 1 + 16) j ≠ -(nI 1))) (fun j => decide (Y1.1 (a + 108 + 11) j = nI 1)) 316
        have ev : nI (cntB (fun j => decide (X.1 (a + 1 + 16) j ≠ -(nI 1))) 316) - X1.1 (a + 18) 3 = nI (cntB (fun j => decide (X.1 (a + 1 + 16) j ≠ -(nI 1)) && !decide (Y1.1 (a + 108 + 11) j = nI 1)) 316) := by
          rw [hu, hsp, sub_n (by omega)]
          congr 1
          omega
        rw [ev]
        simp (disch := first | assumption | omega) only [f_X10_count, litM, grd_t, grd_T, ldI_t, stI_t, ldA_t, stA_t, lenA_t, n_lt_t, n_lt_f, n_le_t, n_le_f, n_eq_t, n_eq_f, if_true, if_false, nI_add, nI_mul, bt_d, bI_z, bI_o, Option.bind_some, Bool.true_eq_false, Bool.false_eq_true, m0, s_win, inR_t, bI_t, s10_rt oD' th_0 (Or.inl rfl), bnd2, k1, s10_choicesWaiting oD', ec]
    · refine fin1 8 (nI (cntB (fun j => decide (X1.1 (a + 18 + 1 + 3) j ≠ nI 9999)) 180)) ?_ (fun X2 Y1 n e2 k1 k2 k4 => ?_)
      · simp (disch := first | assumption | omega) only [f_X9_count, litM, grd_t, grd_T, ldI_t, stI_t, ldA_t, stA_t, lenA_t, n_lt_t, n_lt_f, n_le_t, n_le_f, n_eq_t, n_eq_f, if_true, if_false, nI_add, nI_mul, bt_d, bI_z, bI_o, Option.bind_some, Bool.true_eq_false, Bool.false_eq_true, o0, f1, bnd2, ldR_g oM', s_countFull oM'.2.2.2.2.2.2.2.1]
      · have ec : cntB (fun j => bt (Y1.1 (a + 108) 21) (j / 9) && bt (Y1.1 (a + 108) 20) (j % 9) && decide (Y1.1 (a + 108 + 7) (9 * (j / 9) + j % 9) ≠ nI 9999)) (9 * 20) = cntB (fun j => decide (X1.1 (a + 18 + 1 + 3) j ≠ nI 9999)) 180 := cntB_congr (fun j hj => by
          have ej : 9 * (j / 9) + j % 9 = j := by omega
          have t6 := k4.1.2.2.2.2.2.1 (j / 9) (j % 9) (by omega) (by omega) (by omega)
          have t7 := k4.1.2.2.2.2.2.2 (j / 9) (j % 9) (by omega) (by omega)
          rw [ej] at t6 t7 ⊢
          cases q1 : bt (Y1.1 (a + 108) 21) (j / 9) with
          | false => rw [show X1.1 (a + 18 + 1 + 3) j = nI 9999 from t7 (Or.inl q1)]; simp
          | true =>
            cases q2 : bt (Y1.1 (a + 108) 20) (j % 9) with
            | false => rw [show X1.1 (a + 18 + 1 + 3) j = nI 9999 from t7 (Or.inr (Or.inl q2))]; simp
            | true => rw [show X1.1 (a + 18 + 1 + 3) j = Y1.1 (a + 108 + 7) j from (t6 q1 q2).1]; simp)
        simp (disch := first | assumption | omega) only [f_X10_count, litM, grd_t, grd_T, ldI_t, stI_t, ldA_t, stA_t, lenA_t, n_lt_t, n_lt_f, n_le_t, n_le_f, n_eq_t, n_eq_f, if_true, if_false, nI_add, nI_mul, bt_d, bI_z, bI_o, Option.bind_some, Bool.true_eq_false, Bool.false_eq_true, m0, s_win, inR_t, bI_t, s10_rt oD' th_0 (Or.inl rfl), bnd2, k1, s10_filled oD', ec]
    · refine fin0 9 (nI ka) ?_ (fun X2 Y1 e2 k1 k2 k3 k4 => ?_)
      · have := oA.1
        simp (disch := first | assumption | omega) only [f_X9_count, litM, grd_t, grd_T, ldI_t, stI_t, ldA_t, stA_t, lenA_t, n_lt_t, n_lt_f, n_le_t, n_le_f, n_eq_t, n_eq_f, if_true, if_false, nI_add, nI_mul, bt_d, bI_z, bI_o, Option.bind_some, Bool.true_eq_false, Bool.false_eq_true, ldR, eq_self, if_true, Option.bind_some, o0, o4, a3]
      · have e3 : Y1.1 (a + 108) 19 = nI ka := (k4 19 (by omega) (by omega) (by omega) (by omega)).trans a4
        simp (disch := first | assumption | omega) only [f_X10_count, litM, grd_t, grd_T, ldI_t, stI_t, ldA_t, stA_t, lenA_t, n_lt_t, n_lt_f, n_le_t, n_le_f, n_eq_t, n_eq_f, if_true, if_false, nI_add, nI_mul, bt_d, bI_z, bI_o, Option.bind_some, Bool.true_eq_false, Bool.false_eq_true, m0, s_win, inR_t, bI_t, s10_rt oD' th_0 (Or.inl rfl), bnd2, k1, e3]
    · refine fin0 10 (nI ks) ?_ (fun X2 Y1 e2 k1 k2 k3 k4 => ?_)
      · have := oS.1
        simp (disch := first | assumption | omega) only [f_X9_count, litM, grd_t, grd_T, ldI_t, stI_t, ldA_t, stA_t, lenA_t, n_lt_t, n_lt_f, n_le_t, n_le_f, n_eq_t, n_eq_f, if_true, if_false, nI_add, nI_mul, bt_d, bI_z, bI_o, Option.bind_some, Bool.true_eq_false, Bool.false_eq_true, ldR, eq_self, if_true, Option.bind_some, o0, o5, b2]
      · have e3 : Y1.1 (a + 108) 32 = nI ks := (k4 32 (by omega) (by omega) (by omega) (by omega)).trans b3
        simp (disch := first | assumption | omega) only [f_X10_count, litM, grd_t, grd_T, ldI_t, stI_t, ldA_t, stA_t, lenA_t, n_lt_t, n_lt_f, n_le_t, n_le_f, n_eq_t, n_eq_f, if_true, if_false, nI_add, nI_mul, bt_d, bI_z, bI_o, Option.bind_some, Bool.true_eq_false, Bool.false_eq_true, m0, s_win, inR_t, bI_t, s10_rt oD' th_0 (Or.inl rfl), bnd2, k1, e3]
    · refine fin0 11 (nI tp) ?_ (fun X2 Y1 e2 k1 k2 k3 k4 => ?_)
      · have := oT.1
        simp (disch := first | assumption | omega) only [f_X9_count, litM, grd_t, grd_T, ldI_t, stI_t, ldA_t, stA_t, lenA_t, n_lt_t, n_lt_f, n_le_t, n_le_f, n_eq_t, n_eq_f, if_true, if_false, nI_add, nI_mul, bt_d, bI_z, bI_o, Option.bind_some, Bool.true_eq_false, Bool.false_eq_true, ldR, eq_self, if_true, Option.bind_some, o0, o3, t2]
      · have e3 : Y1.1 (a + 108) 2 = nI tp := (k4 2 (by omega) (by omega) (by omega) (by omega)).trans t3
        simp (disch := first | assumption | omega) only [f_X10_count, litM, grd_t, grd_T, ldI_t, stI_t, ldA_t, stA_t, lenA_t, n_lt_t, n_lt_f, n_le_t, n_le_f, n_eq_t, n_eq_f, if_true, if_false, nI_add, nI_mul, bt_d, bI_z, bI_o, Option.bind_some, Bool.true_eq_false, Bool.false_eq_true, m0, s_win, inR_t, bI_t, s10_rt oD' th_0 (Or.inl rfl), bnd2, k1, e3]
    · refine fin0 12 (X.1 (a + 107) 0) ?_ (fun X2 Y1 e2 k1 k2 k3 k4 => ?_)
      · simp (disch := first | assumption | omega) only [f_X9_count, litM, grd_t, grd_T, ldI_t, stI_t, ldA_t, stA_t, lenA_t, n_lt_t, n_lt_f, n_le_t, n_le_f, n_eq_t, n_eq_f, if_true, if_false, nI_add, nI_mul, bt_d, bI_z, bI_o, Option.bind_some, Bool.true_eq_false, Bool.false_eq_true, ldR, eq_self, if_true, Option.bind_some, o0, o10]
      · simp (disch := first | assumption | omega) only [f_X10_count, litM, grd_t, grd_T, ldI_t, stI_t, ldA_t, stA_t, lenA_t, n_lt_t, n_lt_f, n_le_t, n_le_f, n_eq_t, n_eq_f, if_true, if_false, nI_add, nI_mul, bt_d, bI_z, bI_o, Option.bind_some, Bool.true_eq_false, Bool.false_eq_true, ldR, eq_self, if_true, Option.bind_some, m0, m2, s_win, inR_t, bI_t, s10_rt oD' th_0 (Or.inl rfl), bnd2, k1, k3, show nI 12 - nI 12 = nI 0 from by decide, ← hrf 0 (by omega)]
    · refine fin0 13 (X.1 (a + 107) 1) ?_ (fun X2 Y1 e2 k1 k2 k3 k4 => ?_)
      · simp (disch := first | assumption | omega) only [f_X9_count, litM, grd_t, grd_T, ldI_t, stI_t, ldA_t, stA_t, lenA_t, n_lt_t, n_lt_f, n_le_t, n_le_f, n_eq_t, n_eq_f, if_true, if_false, nI_add, nI_mul, bt_d, bI_z, bI_o, Option.bind_some, Bool.true_eq_false, Bool.false_eq_true, ldR, eq_self, if_true, Option.bind_some, o0, o10]
      · simp (disch := first | assumption | omega) only [f_X10_count, litM, grd_t, grd_T, ldI_t, stI_t, ldA_t, stA_t, lenA_t, n_lt_t, n_lt_f, n_le_t, n_le_f, n_eq_t, n_eq_f, if_true, if_false, nI_add, nI_mul, bt_d, bI_z, bI_o, Option.bind_some, Bool.true_eq_false, Bool.false_eq_true, ldR, eq_self, if_true, Option.bind_some, m0, m2, s_win, inR_t, bI_t, s10_rt oD' th_0 (Or.inl rfl), bnd2, k1, k3, show nI 13 - nI 12 = nI 1 from by decide, ← hrf 1 (by omega)]
    · refine fin0 14 (X.1 (a + 107) 2) ?_ (fun X2 Y1 e2 k1 k2 k3 k4 => ?_)
      · simp (disch := first | assumption | omega) only [f_X9_count, litM, grd_t, grd_T, ldI_t, stI_t, ldA_t, stA_t, lenA_t, n_lt_t, n_lt_f, n_le_t, n_le_f, n_eq_t, n_eq_f, if_true, if_false, nI_add, nI_mul, bt_d, bI_z, bI_o, Option.bind_some, Bool.true_eq_false, Bool.false_eq_true, ldR, eq_self, if_true, Option.bind_some, o0, o10]
      · simp (disch := first | assumption | omega) only [f_X10_count, litM, grd_t, grd_T, ldI_t, stI_t, ldA_t, stA_t, lenA_t, n_lt_t, n_lt_f, n_le_t, n_le_f, n_eq_t, n_eq_f, if_true, if_false, nI_add, nI_mul, bt_d, bI_z, bI_o, Option.bind_some, Bool.true_eq_false, Bool.false_eq_true, ldR, eq_self, if_true, Option.bind_some, m0, m2, s_win, inR_t, bI_t, s10_rt oD' th_0 (Or.inl rfl), bnd2, k1, k3, show nI 14 - nI 12 = nI 2 from by decide, ← hrf 2 (by omega)]
