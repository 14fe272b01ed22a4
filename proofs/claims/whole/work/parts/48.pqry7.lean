theorem q_difference {σ : Sh} {X : Mx} {a L R z : Nat} {x y : Int32} (h : IV σ X a L R) : Qry σ a L R (f_X9_difference σ X z a x y) (fun X2 => f_X10_difference σ X2 (a + 108) x y) := by
  have hs := h.1
  obtain ⟨⟨⟨o0, o1, o2, o3, o4, o5, o6, o7, o8, o9, o10⟩, oM, oT, oA, oS, oQ, oI, oA2, oS2, oR, oD, oO⟩, hst, hsl, hsh⟩ := id hs
  have hS := h.2.1.1
  have m0 := oD.1
  have no : (∀ z, f_X9_difference σ X z a x y = some (.inr 0, σ, X, 1, 6)) → (∀ X2 : Mx, f_X10_difference σ X2 (a + 108) x y = some (nI 0, sI (sI X2 (a + 108) 0 (nI 0)) (a + 108) 0 (nI 1))) → Qry σ a L R (f_X9_difference σ X z a x y) (fun X2 => f_X10_difference σ X2 (a + 108) x y) := fun hc hf => ⟨.inr 0, X, 1, 6, hc z, by omega, by omega, h, fun X2 e2 => ⟨nI 0, _, hf X2, (FrQ.fld (by omega)).trans (FrQ.fld (by omega)), Or.inr ⟨0, rfl, by omega, sI_eq⟩⟩⟩
  have hsd : ∀ (Y : Mx) (x : Int32), Y.1 (a + 108) 0 = nI 0 → f_X10_isSide σ Y (a + 108) x = some (bI (inR 1 x), if inR 1 x = true then Y else sI Y (a + 108) 0 (nI 1)) := by
    intro Y x h0
    unfold f_X10_isSide
    rw [grd_t m0]
    simp only [litM]
    rw [s_win (by omega), s10_right oD h0 (Or.inl rfl), bnd2_some, grd_t (of_eq_true (bI_01 _))]
  cases hx : inR 1 x with
  | false =>
    have nn := inR_f (by omega) hx
    refine no (fun z => ?_) (fun X2 => ?_)
    · simp (disch := first | assumption | omega) only [f_X9_difference, f_X9_demandSide, litM, grd_t, nn 0 (by omega), nn 1 (by omega), if_false, bndX_r]
    · unfold f_X10_difference
      rw [grd_t m0, stI_t m0]
      rw [show f_X10_isSide σ (sI X2 (a + 108) 0 0) (a + 108) x = _ from hsd _ x th_0, hx, bnd2_some]
      exact if_pos rfl
  | true =>
    obtain ⟨t, ht, rfl⟩ := inR_ex (by omega) hx
    have hds : f_X9_demandSide σ X z (nI t) = some (.inl (), σ, X, 0, 0) := by
      rcases (show t = 0 ∨ t = 1 by omega) with rfl | rfl <;> simp (disch := first | assumption | omega) only [f_X9_demandSide, litM, grd_t, grd_T, ldI_t, stI_t, ldA_t, stA_t, lenA_t, n_lt_t, n_lt_f, n_le_t, n_le_f, n_eq_t, n_eq_f, if_true, if_false, nI_add, nI_mul, bt_d, bI_z, bI_o, Option.bind_some, Bool.true_eq_false, Bool.false_eq_true]
    have hds' : ∀ z, f_X9_demandSide σ X z (nI t) = some (.inl (), σ, X, 0, 0) := by
      intro z
      rcases (show t = 0 ∨ t = 1 by omega) with rfl | rfl <;> simp (disch := first | assumption | omega) only [f_X9_demandSide, litM, grd_t, grd_T, ldI_t, stI_t, ldA_t, stA_t, lenA_t, n_lt_t, n_lt_f, n_le_t, n_le_f, n_eq_t, n_eq_f, if_true, if_false, nI_add, nI_mul, bt_d, bI_z, bI_o, Option.bind_some, Bool.true_eq_false, Bool.false_eq_true]
    have hT := hS.tab (show t < 2 by omega)
    have hB := hS.2.2.1
    have hO := sd_ok hst t
    have hst' := hst
    have oD' := oD
    obtain ⟨s0, s1, s2, s3, s4, s5, s6, s7, s8, s9, s10, s11, s12, s13, s14, s15, s16, s17, s18⟩ := hst
    have fin : ∀ (u : Nat) (v : Int32), u < 7 → f_X9_difference σ X z a (nI t) (nI u) = some (.inl v, σ, X, 0, 0) → (∀ X2 : Mx, X2.1 = X.1 → f_X10_difference σ X2 (a + 108) (nI t) (nI u) = some (v, sI X2 (a + 108) 0 (nI 0))) → Qry σ a L R (f_X9_difference σ X z a (nI t) (nI u)) (fun X2 => f_X10_difference σ X2 (a + 108) (nI t) (nI u)) := fun u v _ hc hf => ⟨.inl v, X, 0, 0, hc, by omega, by omega, h, fun X2 e2 => ⟨v, _, hf X2 e2, FrQ.fld (by omega), Or.inl ⟨v, rfl, sI_eq, rfl⟩⟩⟩
    cases hy : inR 6 y with
    | false =>
      have nn := inR_f (by omega) hy
      refine no (fun z => ?_) (fun X2 => ?_)
      · simp (disch := first | assumption | omega) only [f_X9_difference, litM, grd_t, grd_T, ldI_t, stI_t, ldA_t, stA_t, lenA_t, n_lt_t, n_lt_f, n_le_t, n_le_f, n_eq_t, n_eq_f, if_true, if_false, nI_add, nI_mul, bt_d, bI_z, bI_o, Option.bind_some, Bool.true_eq_false, Bool.false_eq_true, ldR, eq_self, if_true, Option.bind_some, hds', bndX_l, adc_some, o0, o1, s0, s1, s_sideOf hst', nn 0 (by omega), nn 1 (by omega), nn 2 (by omega), nn 3 (by omega), nn 4 (by omega), nn 5 (by omega), nn 6 (by omega)]
      · unfold f_X10_difference
        rw [grd_t m0, stI_t m0]
        rw [show f_X10_isSide σ (sI X2 (a + 108) 0 0) (a + 108) (nI t) = _ from hsd _ (nI t) th_0, hx, bnd2_some]
        refine Eq.trans (if_neg (by decide)) ?_
        rw [show f_X10_isWhat σ (if true = true then sI X2 (a + 108) 0 0 else sI (sI X2 (a + 108) 0 0) (a + 108) 0 (nI 1)) (a + 108) y 6 = _ from s10_isWhat oD th_0 (show 6 < 100 by omega), hy, bnd2_some]
        exact if_pos rfl
    | true =>
      obtain ⟨u, hu, rfl⟩ := inR_ex (by omega) hy
      have e1 : ∀ X2 : Mx, X2.1 = X.1 → (sI X2 (a + 108) 0 (nI 0)).1 (a + 108 + 3) = X.1 (a + 111) := fun X2 e2 => by rw [sI_ne (by omega), e2]
      have k0 : X.1 (a + 111) (200 * t + 1) = X.1 (sd t L R) 1 := by have := hT.2.1; rw [Nat.zero_add] at this; exact this.symm
      have k1 : X.1 (a + 111) 401 = X.1 (a + 1 + 1) 1 := hB.2.1.symm
      have k2 : X.1 (a + 111) (200 * t) = X.1 (sd t L R) 0 := by have := hT.1; rw [Nat.zero_add] at this; exact this.symm
      have k3 : X.1 (a + 111) 400 = X.1 (a + 1 + 1) 0 := hB.1.symm
      have l0 : low 20 (X.1 (sd t L R) 1) := hT.2.2.2.1
      have l1 : low 20 (X.1 (a + 1 + 1) 1) := hB.2.2.2.1
      have l2 : low 20 (X.1 (sd t L R) 0) := low_mono hT.2.2.1 (by omega)
      have l3 : low 20 (X.1 (a + 1 + 1) 0) := low_mono hB.2.2.1 (by omega)
      have hO1 := hO.1
      have hB1 := s8.1
      have low5 : low 5 (X.1 (a + 1 + 1) 0) := hS.2.2.2.1
      obtain ⟨m0, m1, m2, m3, m4, m5, m6, m7, m8, m9, m10, m11, m12, m13, m14, m15, m16, m17, mq1, mq2, mq3, mq4, mq5, mq6, mq7, mq8, mq9, mq10, mq11, mq12, mq13, mq14, mq15, mq16, mq17, mn1, mn2, mn3, mn4, mn5, mn6, mn7, mn8, mn9, mn10, mn11, mn12, mn13, mn14, mn15, mn16, mn17⟩ := oD
      rcases (show u = 0 ∨ u = 1 ∨ u = 2 ∨ u = 3 ∨ u = 4 ∨ u = 5 ∨ u = 6 by omega) with rfl | rfl | rfl | rfl | rfl | rfl | rfl
      · refine fin 0 (nI (cntB (fun j => (bt (X.1 (a + 1 + 1) 1) (j / 9) && bt (X.1 (a + 1 + 1) 0) (j % 9)) && cChg X.1 (a + 1 + 1) (sd t L R) (j / 9) (j % 9)) (9 * 20))) (by omega) ?_ (fun X2 e2 => ?_)
        · simp (disch := first | assumption | omega) only [f_X9_difference, litM, grd_t, grd_T, ldI_t, stI_t, ldA_t, stA_t, lenA_t, n_lt_t, n_lt_f, n_le_t, n_le_f, n_eq_t, n_eq_f, if_true, if_false, nI_add, nI_mul, bt_d, bI_z, bI_o, Option.bind_some, Bool.true_eq_false, Bool.false_eq_true, ldR, eq_self, if_true, Option.bind_some, hds', bndX_l, adc_some, o0, o1, s0, s1, s_sideOf hst', s_countChanged hst']
        · have ec : cntB (fun j => bt ((sI X2 (a + 108) 0 (nI 0)).1 (a + 108 + 3) (0 + 200 * 2 + 1)) (j / 5) && bt ((sI X2 (a + 108) 0 (nI 0)).1 (a + 108 + 3) (0 + 200 * 2)) (j % 5) && rChg ((sI X2 (a + 108) 0 (nI 0)).1 (a + 108 + 3)) 0 t (j / 5) (j % 5)) (5 * 20) = cntB (fun j => (bt (X.1 (a + 1 + 1) 1) (j / 9) && bt (X.1 (a + 1 + 1) 0) (j % 9)) && cChg X.1 (a + 1 + 1) (sd t L R) (j / 9) (j % 9)) (9 * 20) := by
            rw [cntB_95 (p := fun k c => (bt (X.1 (a + 1 + 1) 1) k && bt (X.1 (a + 1 + 1) 0) c) && cChg X.1 (a + 1 + 1) (sd t L R) k c) (fun k c _ h5 _ => by show ((bt (X.1 (a + 1 + 1) 1) k && bt (X.1 (a + 1 + 1) 0) c) && _) = false; rw [low5 c h5]; simp)]
            refine cntB_congr (fun j hj => ?_)
            rw [e1 X2 e2, chg_rel hB hT (by omega) (by omega), ← hB.1, ← hB.2.1]
          simp (disch := first | assumption | omega) only [f_X10_difference, litM, grd_t, grd_T, ldI_t, stI_t, ldA_t, stA_t, lenA_t, n_lt_t, n_lt_f, n_le_t, n_le_f, n_eq_t, n_eq_f, if_true, if_false, nI_add, nI_mul, bt_d, bI_z, bI_o, Option.bind_some, Bool.true_eq_false, Bool.false_eq_true, ldR, eq_self, if_true, Option.bind_some, hsd _ _ th_0, hx, bnd2, bI_t, s10_isWhat oD' th_0, hy, m0, m3, s10_changedCells oD', ec]
      · refine fin 1 (f_J6_bitCount_0f7a4 (X.1 (sd t L R) 1 &&& (X.1 (a + 1 + 1) 1 ^^^ (-(nI 1))))) (by omega) ?_ (fun X2 e2 => ?_)
        · simp (disch := first | assumption | omega) only [f_X9_difference, litM, grd_t, grd_T, ldI_t, stI_t, ldA_t, stA_t, lenA_t, n_lt_t, n_lt_f, n_le_t, n_le_f, n_eq_t, n_eq_f, if_true, if_false, nI_add, nI_mul, bt_d, bI_z, bI_o, Option.bind_some, Bool.true_eq_false, Bool.false_eq_true, ldR, eq_self, if_true, Option.bind_some, hds', bndX_l, adc_some, o0, o1, s0, s1, s_sideOf hst']
        · rw [s_bitCount (low_andn l0)]
          simp (disch := first | assumption | omega) only [f_X10_difference, litM, grd_t, grd_T, ldI_t, stI_t, ldA_t, stA_t, lenA_t, n_lt_t, n_lt_f, n_le_t, n_le_f, n_eq_t, n_eq_f, if_true, if_false, nI_add, nI_mul, bt_d, bI_z, bI_o, Option.bind_some, Bool.true_eq_false, Bool.false_eq_true, ldR, eq_self, if_true, Option.bind_some, hsd _ _ th_0, hx, bnd2, bI_t, s10_isWhat oD' th_0, hy, m0, m3, e1 X2 e2, k0, k1, s_bits]
      · refine fin 2 (f_J6_bitCount_0f7a4 (X.1 (a + 1 + 1) 1 &&& (X.1 (sd t L R) 1 ^^^ (-(nI 1))))) (by omega) ?_ (fun X2 e2 => ?_)
        · simp (disch := first | assumption | omega) only [f_X9_difference, litM, grd_t, grd_T, ldI_t, stI_t, ldA_t, stA_t, lenA_t, n_lt_t, n_lt_f, n_le_t, n_le_f, n_eq_t, n_eq_f, if_true, if_false, nI_add, nI_mul, bt_d, bI_z, bI_o, Option.bind_some, Bool.true_eq_false, Bool.false_eq_true, ldR, eq_self, if_true, Option.bind_some, hds', bndX_l, adc_some, o0, o1, s0, s1, s_sideOf hst']
        · rw [s_bitCount (low_andn l1)]
          simp (disch := first | assumption | omega) only [f_X10_difference, litM, grd_t, grd_T, ldI_t, stI_t, ldA_t, stA_t, lenA_t, n_lt_t, n_lt_f, n_le_t, n_le_f, n_eq_t, n_eq_f, if_true, if_false, nI_add, nI_mul, bt_d, bI_z, bI_o, Option.bind_some, Bool.true_eq_false, Bool.false_eq_true, ldR, eq_self, if_true, Option.bind_some, hsd _ _ th_0, hx, bnd2, bI_t, s10_isWhat oD' th_0, hy, m0, m3, e1 X2 e2, k0, k1, s_bits]
      · refine fin 3 (f_J6_bitCount_0f7a4 (X.1 (sd t L R) 0 &&& (X.1 (a + 1 + 1) 0 ^^^ (-(nI 1))))) (by omega) ?_ (fun X2 e2 => ?_)
        · simp (disch := first | assumption | omega) only [f_X9_difference, litM, grd_t, grd_T, ldI_t, stI_t, ldA_t, stA_t, lenA_t, n_lt_t, n_lt_f, n_le_t, n_le_f, n_eq_t, n_eq_f, if_true, if_false, nI_add, nI_mul, bt_d, bI_z, bI_o, Option.bind_some, Bool.true_eq_false, Bool.false_eq_true, ldR, eq_self, if_true, Option.bind_some, hds', bndX_l, adc_some, o0, o1, s0, s1, s_sideOf hst']
        · rw [s_bitCount (low_andn l2)]
          simp (disch := first | assumption | omega) only [f_X10_difference, litM, grd_t, grd_T, ldI_t, stI_t, ldA_t, stA_t, lenA_t, n_lt_t, n_lt_f, n_le_t, n_le_f, n_eq_t, n_eq_f, if_true, if_false, nI_add, nI_mul, bt_d, bI_z, bI_o, Option.bind_some, Bool.true_eq_false, Bool.false_eq_true, ldR, eq_self, if_true, Option.bind_some, hsd _ _ th_0, hx, bnd2, bI_t, s10_isWhat oD' th_0, hy, m0, m3, e1 X2 e2, k2, k3, s_bits, Nat.add_zero]
      · refine fin 4 (f_J6_bitCount_0f7a4 (X.1 (a + 1 + 1) 0 &&& (X.1 (sd t L R) 0 ^^^ (-(nI 1))))) (by omega) ?_ (fun X2 e2 => ?_)
        · simp (disch := first | assumption | omega) only [f_X9_difference, litM, grd_t, grd_T, ldI_t, stI_t, ldA_t, stA_t, lenA_t, n_lt_t, n_lt_f, n_le_t, n_le_f, n_eq_t, n_eq_f, if_true, if_false, nI_add, nI_mul, bt_d, bI_z, bI_o, Option.bind_some, Bool.true_eq_false, Bool.false_eq_true, ldR, eq_self, if_true, Option.bind_some, hds', bndX_l, adc_some, o0, o1, s0, s1, s_sideOf hst']
        · rw [s_bitCount (low_andn l3)]
          simp (disch := first | assumption | omega) only [f_X10_difference, litM, grd_t, grd_T, ldI_t, stI_t, ldA_t, stA_t, lenA_t, n_lt_t, n_lt_f, n_le_t, n_le_f, n_eq_t, n_eq_f, if_true, if_false, nI_add, nI_mul, bt_d, bI_z, bI_o, Option.bind_some, Bool.true_eq_false, Bool.false_eq_true, ldR, eq_self, if_true, Option.bind_some, hsd _ _ th_0, hx, bnd2, bI_t, s10_isWhat oD' th_0, hy, m0, m3, e1 X2 e2, k2, k3, s_bits, Nat.add_zero]
      · have en : f_X6_countOtherNames σ X (sd t L R) (a + 1 + 1) = some (nI (cntB (fun c => bt (X.1 (sd t L R) 0) c && bt (X.1 (a + 1 + 1) 0) c && decide (X.1 (sd t L R + 1) c ≠ X.1 (a + 1 + 1 + 1) c)) 9)) := s_other (f := 1) hO s8 (Or.inl rfl)
        refine fin 5 (nI (cntB (fun c => bt (X.1 (sd t L R) 0) c && bt (X.1 (a + 1 + 1) 0) c && decide (X.1 (sd t L R + 1) c ≠ X.1 (a + 1 + 1 + 1) c)) 9)) (by omega) ?_ (fun X2 e2 => ?_)
        · simp (disch := first | assumption | omega) only [f_X9_difference, litM, grd_t, grd_T, ldI_t, stI_t, ldA_t, stA_t, lenA_t, n_lt_t, n_lt_f, n_le_t, n_le_f, n_eq_t, n_eq_f, if_true, if_false, nI_add, nI_mul, bt_d, bI_z, bI_o, Option.bind_some, Bool.true_eq_false, Bool.false_eq_true, ldR, eq_self, if_true, Option.bind_some, hds', bndX_l, adc_some, o0, o1, s0, s1, s_sideOf hst', en]
        · have ec : cntB (fun c => bt ((sI X2 (a + 108) 0 (nI 0)).1 (a + 108 + 3) (0 + 200 * 2)) c && bt ((sI X2 (a + 108) 0 (nI 0)).1 (a + 108 + 3) (0 + 200 * t)) c && decide ((sI X2 (a + 108) 0 (nI 0)).1 (a + 108 + 3) (200 * t + 2 + c) ≠ (sI X2 (a + 108) 0 (nI 0)).1 (a + 108 + 3) (400 + 2 + c))) 5 = cntB (fun c => bt (X.1 (sd t L R) 0) c && bt (X.1 (a + 1 + 1) 0) c && decide (X.1 (sd t L R + 1) c ≠ X.1 (a + 1 + 1 + 1) c)) 9 := by
            rw [cntB_9_5 (p := fun c => bt (X.1 (sd t L R) 0) c && bt (X.1 (a + 1 + 1) 0) c && decide (X.1 (sd t L R + 1) c ≠ X.1 (a + 1 + 1 + 1) c)) (fun c h5 _ => by show ((bt (X.1 (sd t L R) 0) c && bt (X.1 (a + 1 + 1) 0) c) && _) = false; rw [low5 c h5]; simp)]
            refine cntB_congr (fun c hc => ?_)
            rw [e1 X2 e2, ← hB.1, ← hT.1]
            cases q1 : bt (X.1 (a + 1 + 1) 0) c with
            | false => simp
            | true =>
              cases q2 : bt (X.1 (sd t L R) 0) c with
              | false => simp
              | true =>
                have n1 := (hT.2.2.2.2.1 c (by omega) q2).1
                have n2 := (hB.2.2.2.2.1 c (by omega) q1).1
                rw [n1, n2, Nat.zero_add, Nat.zero_add]
          simp (disch := first | assumption | omega) only [f_X10_difference, litM, grd_t, grd_T, ldI_t, stI_t, ldA_t, stA_t, lenA_t, n_lt_t, n_lt_f, n_le_t, n_le_f, n_eq_t, n_eq_f, if_true, if_false, nI_add, nI_mul, bt_d, bI_z, bI_o, Option.bind_some, Bool.true_eq_false, Bool.false_eq_true, ldR, eq_self, if_true, Option.bind_some, hsd _ _ th_0, hx, bnd2, bI_t, s10_isWhat oD' th_0, hy, m0, m3, s10_changedColumns oD' ht (Or.inl rfl), ec]
      · have en : f_X6_countOtherTypes σ X (sd t L R) (a + 1 + 1) = some (nI (cntB (fun c => bt (X.1 (sd t L R) 0) c && bt (X.1 (a + 1 + 1) 0) c && decide (X.1 (sd t L R + 2) c ≠ X.1 (a + 1 + 1 + 2) c)) 9)) := s_other (f := 2) hO s8 (Or.inr rfl)
        refine fin 6 (nI (cntB (fun c => bt (X.1 (sd t L R) 0) c && bt (X.1 (a + 1 + 1) 0) c && decide (X.1 (sd t L R + 2) c ≠ X.1 (a + 1 + 1 + 2) c)) 9)) (by omega) ?_ (fun X2 e2 => ?_)
        · simp (disch := first | assumption | omega) only [f_X9_difference, litM, grd_t, grd_T, ldI_t, stI_t, ldA_t, stA_t, lenA_t, n_lt_t, n_lt_f, n_le_t, n_le_f, n_eq_t, n_eq_f, if_true, if_false, nI_add, nI_mul, bt_d, bI_z, bI_o, Option.bind_some, Bool.true_eq_false, Bool.false_eq_true, ldR, eq_self, if_true, Option.bind_some, hds', bndX_l, adc_some, o0, o1, s0, s1, s_sideOf hst', en]
        · have ec : cntB (fun c => bt ((sI X2 (a + 108) 0 (nI 0)).1 (a + 108 + 3) (0 + 200 * 2)) c && bt ((sI X2 (a + 108) 0 (nI 0)).1 (a + 108 + 3) (0 + 200 * t)) c && decide ((sI X2 (a + 108) 0 (nI 0)).1 (a + 108 + 3) (200 * t + 11 + c) ≠ (sI X2 (a + 108) 0 (nI 0)).1 (a + 108 + 3) (400 + 11 + c))) 5 = cntB (fun c => bt (X.1 (sd t L R) 0) c && bt (X.1 (a + 1 + 1) 0) c && decide (X.1 (sd t L R + 2) c ≠ X.1 (a + 1 + 1 + 2) c)) 9 := by
            rw [cntB_9_5 (p := fun c => bt (X.1 (sd t L R) 0) c && bt (X.1 (a + 1 + 1) 0) c && decide (X.1 (sd t L R + 2) c ≠ X.1 (a + 1 + 1 + 2) c)) (fun c h5 _ => by show ((bt (X.1 (sd t L R) 0) c && bt (X.1 (a + 1 + 1) 0) c) && _) = false; rw [low5 c h5]; simp)]
            refine cntB_congr (fun c hc => ?_)
            rw [e1 X2 e2, ← hB.1, ← hT.1]
            cases q1 : bt (X.1 (a + 1 + 1) 0) c with
            | false => simp
            | true =>
              cases q2 : bt (X.1 (sd t L R) 0) c with
              | false => simp
              | true =>
                have n1 := (hT.2.2.2.2.1 c (by omega) q2).2.1
                have n2 := (hB.2.2.2.2.1 c (by omega) q1).2.1
                rw [n1, n2, Nat.zero_add, Nat.zero_add]
          simp (disch := first | assumption | omega) only [f_X10_difference, litM, grd_t, grd_T, ldI_t, stI_t, ldA_t, stA_t, lenA_t, n_lt_t, n_lt_f, n_le_t, n_le_f, n_eq_t, n_eq_f, if_true, if_false, nI_add, nI_mul, bt_d, bI_z, bI_o, Option.bind_some, Bool.true_eq_false, Bool.false_eq_true, ldR, eq_self, if_true, Option.bind_some, hsd _ _ th_0, hx, bnd2, bI_t, s10_isWhat oD' th_0, hy, m0, m3, s10_changedColumns oD' ht (Or.inr rfl), ec]
