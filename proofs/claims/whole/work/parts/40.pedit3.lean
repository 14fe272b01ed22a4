theorem n_nlt4 {x : Int32} {n : Nat} (h : nI n ≤ x) : (x < nI n) = False := eq_false (Int32.not_lt.mpr h)
theorem StR.had {X : Nat → Nat → Int32} {s L R b t : Nat} {W : Nat → Int32} (h : StR X s L R W b) (ht : t < 2) : ∃ d, d ≤ 2 ∧ X s (3 + t) = nI d ∧ W (b + 613 + t) = nI d ∧ ∀ j, d ≤ j → j < 2 → bt (X (sd t L R) 0) (5 + 2 * t + j) = false := by
  obtain ⟨-, -, -, -, -, -, -, ⟨p, p1, p2, p3, p4⟩, ⟨q, q1, q2, q3, q4⟩, -⟩ := h
  rcases (show t = 0 ∨ t = 1 by omega) with rfl | rfl
  · exact ⟨p, p1, p2, p3, p4⟩
  · exact ⟨q, q1, q2, q3, q4⟩
theorem ed_add {σ τ : Sh} {X Y : Mx} {s L R m b t : Nat} {x y : Int32} (hs : stOK σ s L R) (hm : mdOK τ m) (hb : b ≤ 931) (ht : t < 2) (hS : StR X.1 s L R (Y.1 (m + 3)) b) :
    ∃ ok v X1 Y1, f_X5_addColumn σ X s (nI t) x y = some (v, X1) ∧ f_X10_adds τ Y m (nI b) (nI t) x y = some (bI ok, Y1) ∧ ER ok s L R m b X X1 Y Y1 ∧ (ok = false → v = -(nI 1)) ∧ (ok = true → ∃ d, d < 2 ∧ Y.1 (m + 3) (b + 613 + t) = nI d ∧ v = nI (5 + 2 * t + d)) := by
  have hT := hS.tab ht
  have hO := sd_ok hs t
  have hi := sd_in hs t
  obtain ⟨b0, b1, b2, b3, b4, b5, b6⟩ := id hT
  obtain ⟨d, hd, xd, wd, bd⟩ := hS.had ht
  have hn : f_X10_hasName τ Y m (nI b) (nI t) x = some (bI (anyB (fun c => bt (X.1 (sd t L R) 0) c && decide (X.1 (sd t L R + 1) c = x)) 9)) := by
    rw [s10_hasName hm hb (by omega)]
    refine congrArg (fun z => some (bI z)) (anyB_congr (fun c hc => ?_))
    rw [← b0]
    cases ec : bt (X.1 (sd t L R) 0) c with
    | false => rfl
    | true => rw [← (b4 c hc ec).1]
  have hm' := hm
  have hO' := hO
  have hs' := hs
  have ec : f_X5_addColumn σ X s (nI t) x y = f_X5_addColumn_22 σ s (nI t) x y (sd t L R) X (nI d) := by
    unfold f_X5_addColumn
    rw [grd_t hs.1, s_sideOf hs ht]
    have s0 := hs.1
    rcases (show t = 0 ∨ t = 1 by omega) with rfl | rfl
    · have xd : X.1 s 3 = nI d := xd
      simp (disch := first | assumption | omega) only [litM, grd_t, grd_T, ldI_t, stI_t, ldA_t, stA_t, lenA_t, n_lt_t, n_lt_f, n_le_t, n_le_f, n_eq_t, n_eq_f, if_true, if_false, nI_add, nI_mul, bt_d, bI_z, bI_o, Option.bind_some, Bool.true_eq_false, Bool.false_eq_true, xd]
    · have xd : X.1 s 4 = nI d := xd
      simp (disch := first | assumption | omega) only [litM, grd_t, grd_T, ldI_t, stI_t, ldA_t, stA_t, lenA_t, n_lt_t, n_lt_f, n_le_t, n_le_f, n_eq_t, n_eq_f, if_true, if_false, nI_add, nI_mul, bt_d, bI_z, bI_o, Option.bind_some, Bool.true_eq_false, Bool.false_eq_true, xd]
  have en : f_X10_nextColumn τ Y m (nI b) (nI t) = some (if d = 2 then -(nI 1) else nI (5 + 2 * t + d)) := by
    obtain ⟨m0, m1, m2, m3, m4, m5, m6, m7, m8, m9, m10, m11, m12, m13, m14, m15, m16, m17, mq1, mq2, mq3, mq4, mq5, mq6, mq7, mq8, mq9, mq10, mq11, mq12, mq13, mq14, mq15, mq16, mq17, mn1, mn2, mn3, mn4, mn5, mn6, mn7, mn8, mn9, mn10, mn11, mn12, mn13, mn14, mn15, mn16, mn17⟩ := hm
    by_cases e2 : d = 2
    · subst e2
      simp (disch := first | assumption | omega) only [f_X10_nextColumn, litM, grd_t, grd_T, ldI_t, stI_t, ldA_t, stA_t, lenA_t, n_lt_t, n_lt_f, n_le_t, n_le_f, n_eq_t, n_eq_f, if_true, if_false, nI_add, nI_mul, bt_d, bI_z, bI_o, Option.bind_some, Bool.true_eq_false, Bool.false_eq_true, ldR, eq_self, if_true, Option.bind_some, m0, m3, wd]
    · simp (disch := first | assumption | omega) only [f_X10_nextColumn, litM, grd_t, grd_T, ldI_t, stI_t, ldA_t, stA_t, lenA_t, n_lt_t, n_lt_f, n_le_t, n_le_f, n_eq_t, n_eq_f, if_true, if_false, nI_add, nI_mul, bt_d, bI_z, bI_o, Option.bind_some, Bool.true_eq_false, Bool.false_eq_true, ldR, eq_self, if_true, Option.bind_some, m0, m3, wd, e2]
  rw [ec]
  unfold f_X5_addColumn_22 f_X10_adds
  rw [grd_t hm.1, en, s_hasName hO, hn]
  by_cases e2 : d = 2
  · subst e2
    refine ⟨false, -(nI 1), X, Y, ?_, ?_, ER.no hS, fun _ => rfl, fun h => by cases h⟩
    · simp (disch := first | assumption | omega) only [litM, grd_t, grd_T, ldI_t, stI_t, ldA_t, stA_t, lenA_t, n_lt_t, n_lt_f, n_le_t, n_le_f, n_eq_t, n_eq_f, if_true, if_false, nI_add, nI_mul, bt_d, bI_z, bI_o, Option.bind_some, Bool.true_eq_false, Bool.false_eq_true]
    · simp (disch := first | assumption | omega) only [litM, grd_t, grd_T, ldI_t, stI_t, ldA_t, stA_t, lenA_t, n_lt_t, n_lt_f, n_le_t, n_le_f, n_eq_t, n_eq_f, if_true, if_false, nI_add, nI_mul, bt_d, bI_z, bI_o, Option.bind_some, Bool.true_eq_false, Bool.false_eq_true, eq_self, bI_f]
  · rw [if_neg e2]
    have no : ∀ X1 Y1 : Option (Int32 × Mx), X1 = some (-(nI 1), X) → Y1 = some (nI 0, Y) → ∃ ok v X2 Y2, X1 = some (v, X2) ∧ Y1 = some (bI ok, Y2) ∧ ER ok s L R m b X X2 Y Y2 ∧ (ok = false → v = -(nI 1)) ∧ (ok = true → ∃ d, d < 2 ∧ Y.1 (m + 3) (b + 613 + t) = nI d ∧ v = nI (5 + 2 * t + d)) := fun X1 Y1 h1 h2 => ⟨false, -(nI 1), X, Y, h1, h2, ER.no hS, fun _ => rfl, fun h => by cases h⟩
    rcases i32_cases x 26 (by omega) with ⟨k, hk, rfl⟩ | hk | ⟨hk, hk2⟩
    · cases ea : anyB (fun c => bt (X.1 (sd t L R) 0) c && decide (X.1 (sd t L R + 1) c = nI k)) 9 with
      | true =>
        refine no _ _ ?_ ?_
        · simp (disch := first | assumption | omega) only [litM, grd_t, grd_T, ldI_t, stI_t, ldA_t, stA_t, lenA_t, n_lt_t, n_lt_f, n_le_t, n_le_f, n_eq_t, n_eq_f, if_true, if_false, nI_add, nI_mul, bt_d, bI_z, bI_o, Option.bind_some, Bool.true_eq_false, Bool.false_eq_true, bI_t]
        · rcases i32_cases y 4 (by omega) with ⟨q, hq, rfl⟩ | hq | ⟨hq, hq2⟩
          · simp (disch := first | assumption | omega) only [litM, grd_t, grd_T, ldI_t, stI_t, ldA_t, stA_t, lenA_t, n_lt_t, n_lt_f, n_le_t, n_le_f, n_eq_t, n_eq_f, if_true, if_false, nI_add, nI_mul, bt_d, bI_z, bI_o, Option.bind_some, Bool.true_eq_false, Bool.false_eq_true, m_lt, m_le, m_eq, m_eq2, s_within, not_false_eq_true, and_self, decide_true, bI_t]
          · simp (disch := first | assumption | omega) only [litM, grd_t, grd_T, ldI_t, stI_t, ldA_t, stA_t, lenA_t, n_lt_t, n_lt_f, n_le_t, n_le_f, n_eq_t, n_eq_f, if_true, if_false, nI_add, nI_mul, bt_d, bI_z, bI_o, Option.bind_some, Bool.true_eq_false, Bool.false_eq_true, m_lt, m_le, m_eq, m_eq2, s_within, not_false_eq_true, and_self, decide_true, hq, not_true, false_and, decide_false, bI_t]
          · simp (disch := first | assumption | omega) only [litM, grd_t, grd_T, ldI_t, stI_t, ldA_t, stA_t, lenA_t, n_lt_t, n_lt_f, n_le_t, n_le_f, n_eq_t, n_eq_f, if_true, if_false, nI_add, nI_mul, bt_d, bI_z, bI_o, Option.bind_some, Bool.true_eq_false, Bool.false_eq_true, m_lt, m_le, m_eq, m_eq2, s_within, not_false_eq_true, and_self, decide_true, hq, hq2, not_true, and_false, decide_false, bI_t]
      | false =>
        rcases i32_cases y 4 (by omega) with ⟨q, hq, rfl⟩ | hq | ⟨hq, hq2⟩
        · have hc : 5 + 2 * t + d < 9 := by omega
          have s0 := hs.1
          obtain ⟨Xa, hXa⟩ : ∃ Z, Z = sI (sI (sI (sI X (sd t L R) 0 (X.1 (sd t L R) 0 ||| ((1 : Int32) <<< (nI (5 + 2 * t + d) &&& 31)))) (sd t L R + 1) (5 + 2 * t + d) (nI k)) (sd t L R + 2) (5 + 2 * t + d) (nI q)) s (3 + t) (nI (d + 1)) := ⟨_, rfl⟩
          obtain ⟨Ya, hYa⟩ : ∃ Z, Z = sI (sI (sI (sI Y (m + 3) (b + 613 + t) (nI (d + 1))) (m + 3) (b + 200 * t) (Y.1 (m + 3) (b + 200 * t) ||| ((1 : Int32) <<< (nI (5 + 2 * t + d) &&& 31)))) (m + 3) (b + 200 * t + 2 + (5 + 2 * t + d)) (nI k)) (m + 3) (b + 200 * t + 11 + (5 + 2 * t + d)) (nI q) := ⟨_, rfl⟩
          obtain ⟨n, Z, e, z2, zq, zi, zj⟩ := upd_loop (F := fun n y i => f_X10_adds_124 τ m (nI b) (nI t) (nI (5 + 2 * t + d)) n y (nI i)) (Y := Ya) (a := m + 3) (N := 20) (idx := fun i => b + 200 * t + 20 + 9 * i + (5 + 2 * t + d)) (p := fun _ => true) (g := fun _ _ => nI 9999) (fun i j _ _ h => by omega) (by
            intro n y i hi _ _ _
            show f_X10_adds_124 τ m (nI b) (nI t) (nI (5 + 2 * t + d)) (n + 1) y (nI i) = f_X10_adds_124 τ m (nI b) (nI t) (nI (5 + 2 * t + d)) n _ (nI (i + 1))
            rw [f_X10_adds_124]
            obtain ⟨m0, m1, m2, m3, m4, m5, m6, m7, m8, m9, m10, m11, m12, m13, m14, m15, m16, m17, mq1, mq2, mq3, mq4, mq5, mq6, mq7, mq8, mq9, mq10, mq11, mq12, mq13, mq14, mq15, mq16, mq17, mn1, mn2, mn3, mn4, mn5, mn6, mn7, mn8, mn9, mn10, mn11, mn12, mn13, mn14, mn15, mn16, mn17⟩ := hm
            simp (disch := first | assumption | omega) only [litM, grd_t, grd_T, ldI_t, stI_t, ldA_t, stA_t, lenA_t, n_lt_t, n_lt_f, n_le_t, n_le_f, n_eq_t, n_eq_f, if_true, if_false, nI_add, nI_mul, bt_d, bI_z, bI_o, Option.bind_some, Bool.true_eq_false, Bool.false_eq_true, ldR, eq_self, if_true, Option.bind_some, m0, m3, s10_cellAt]) (by rw [FU_40000]; omega)
          have e : f_X10_adds_124 τ m (nI b) (nI t) (nI (5 + 2 * t + d)) FU Ya (nI 0) = f_X10_adds_124 τ m (nI b) (nI t) (nI (5 + 2 * t + d)) (n + 1) Z (nI 20) := e
          have e' : f_X10_adds_124 τ m (nI b) (nI t) (nI (5 + 2 * t + d)) (n + 1) Z (nI 20) = some (nI 1, Z) := by
            rw [f_X10_adds_124]; exact if_pos (Int32.le_refl _)
          have ya : ∀ j, Ya.1 (m + 3) j = if j = b + 200 * t + 11 + (5 + 2 * t + d) then nI q else if j = b + 200 * t + 2 + (5 + 2 * t + d) then nI k else if j = b + 200 * t then Y.1 (m + 3) (b + 200 * t) ||| ((1 : Int32) <<< (nI (5 + 2 * t + d) &&& 31)) else if j = b + 613 + t then nI (d + 1) else Y.1 (m + 3) j := fun j => by rw [hYa, sI_get, sI_get, sI_get, sI_get]
          refine ⟨true, nI (5 + 2 * t + d), Xa, Z, ?_, ?_, ⟨hS.grow (e := d) hs.lr ht (by omega) (fun q h1 h2 h3 => ?_) (fun j => ?_) (fun j h1 h2 h3 => ?_) ?_ (hT.add (n := nI k) hc hq (bd d (Nat.le_refl _) (by omega)) ?_ ?_ (fun j => ?_) (fun j => ?_) ?_ ?_ ?_ (fun i hi => ?_) (fun i hi => ?_) (fun i j hi hj => ?_)) bd (fun c => ?_), ⟨?_, fun q hq => ?_⟩, ⟨?_, fun q hq => ?_, fun j hj => ?_⟩, fun h => by cases h⟩, fun h => (by cases h), fun _ => ⟨d, by omega, wd, rfl⟩⟩
          · rw [hXa]
            have hput := s_putColumn (X := X) (n := nI k) (t := nI q) hO' hc
            rcases (show t = 0 ∨ t = 1 by omega) with rfl | rfl
            · have xd : X.1 s 3 = nI d := xd
              simp (disch := first | assumption | omega) only [litM, grd_t, grd_T, ldI_t, stI_t, ldA_t, stA_t, lenA_t, n_lt_t, n_lt_f, n_le_t, n_le_f, n_eq_t, n_eq_f, if_true, if_false, nI_add, nI_mul, bt_d, bI_z, bI_o, Option.bind_some, Bool.true_eq_false, Bool.false_eq_true, f_X5_addColumn_70, bI_f, show 5 + d = 5 + 2 * 0 + d by omega, hput, sI_na, xd]
            · have xd : X.1 s 4 = nI d := xd
              simp (disch := first | assumption | omega) only [litM, grd_t, grd_T, ldI_t, stI_t, ldA_t, stA_t, lenA_t, n_lt_t, n_lt_f, n_le_t, n_le_f, n_eq_t, n_eq_f, if_true, if_false, nI_add, nI_mul, bt_d, bI_z, bI_o, Option.bind_some, Bool.true_eq_false, Bool.false_eq_true, f_X5_addColumn_70, bI_f, show 7 + d = 5 + 2 * 1 + d by omega, hput, sI_na, xd]
          · refine Eq.trans ?_ (e.trans e')
            rw [hYa]
            obtain ⟨m0, m1, m2, m3, m4, m5, m6, m7, m8, m9, m10, m11, m12, m13, m14, m15, m16, m17, mq1, mq2, mq3, mq4, mq5, mq6, mq7, mq8, mq9, mq10, mq11, mq12, mq13, mq14, mq15, mq16, mq17, mn1, mn2, mn3, mn4, mn5, mn6, mn7, mn8, mn9, mn10, mn11, mn12, mn13, mn14, mn15, mn16, mn17⟩ := hm
            simp (disch := first | assumption | omega) only [litM, grd_t, grd_T, ldI_t, stI_t, ldA_t, stA_t, lenA_t, n_lt_t, n_lt_f, n_le_t, n_le_f, n_eq_t, n_eq_f, if_true, if_false, nI_add, nI_mul, bt_d, bI_z, bI_o, Option.bind_some, Bool.true_eq_false, Bool.false_eq_true, ldR, eq_self, if_true, Option.bind_some, m_lt, m_le, m_eq, m_eq2, m0, m3, s_within, not_false_eq_true, and_self, decide_true, bI_t, bI_f, wd, sI_nk, Nat.add_zero]
          · rw [hXa, sI_ne (by omega), sI_ne (by omega), sI_ne (by omega), sI_ne (by omega)]
          · rw [hXa, sI_get]
            by_cases ej : j = 3 + t
            · rw [if_pos ej, if_pos ej]
            · rw [if_neg ej, if_neg ej, sI_na (by omega), sI_na (by omega), sI_na (by omega)]
          · rw [zj _ (fun i hi => by omega), ya, if_neg (by omega), if_neg (by omega), if_neg (by omega), if_neg (by omega)]
          · rw [zj _ (fun i hi => by omega), ya, if_neg (by omega), if_neg (by omega), if_neg (by omega), if_pos rfl]
          · rw [hXa, sI_na (by omega), sI_na (by omega), sI_na (by omega), sI_eq]
          · rw [hXa, sI_na (by omega), sI_na (by omega), sI_na (by omega), sI_nk (by omega)]
          · rw [hXa, sI_na (by omega), sI_na (by omega), sI_get, sI_na (by omega)]
          · rw [hXa, sI_na (by omega), sI_get, sI_na (by omega), sI_na (by omega)]
          · rw [hXa, sI_ne (by omega), sI_ne (by omega), sI_ne (by omega), sI_ne (by omega)]
          · rw [zj _ (fun i hi => by omega), ya, if_neg (by omega), if_neg (by omega), if_pos rfl]
          · rw [zj _ (fun i hi => by omega), ya, if_neg (by omega), if_neg (by omega), if_neg (by omega), if_neg (by omega)]
          · rw [zj _ (fun i hi => by omega), ya, if_neg (by omega)]
            by_cases ej : i = 5 + 2 * t + d
            · rw [if_pos (by omega), if_pos ej]
            · rw [if_neg (by omega), if_neg (by omega), if_neg (by omega), if_neg ej]
          · rw [zj _ (fun i hi => by omega), ya]
            by_cases ej : i = 5 + 2 * t + d
            · rw [if_pos (by omega), if_pos ej]
            · rw [if_neg (by omega), if_neg (by omega), if_neg (by omega), if_neg (by omega), if_neg ej]
          · by_cases ej : j = 5 + 2 * t + d
            · rw [if_pos ej, ej, zi i hi]; rfl
            · rw [if_neg ej, zj _ (fun i' hi' => by omega), ya, if_neg (by omega), if_neg (by omega), if_neg (by omega), if_neg (by omega)]
          · rw [hXa, sI_na (by omega), sI_na (by omega), sI_na (by omega), sI_eq, bt_set (by omega)]
          · rw [hXa]; rfl
          · rw [hXa, sI_ne (by omega), sI_ne (by omega), sI_ne (by omega), sI_ne (by omega)]
          · rw [z2, hYa]; rfl
          · rw [zq q hq, hYa, sI_ne hq, sI_ne hq, sI_ne hq, sI_ne hq]
          · rw [zj _ (fun i hi => by omega), ya, if_neg (by omega), if_neg (by omega), if_neg (by omega), if_neg (by omega)]
        · refine no _ _ ?_ ?_
          · simp (disch := first | assumption | omega) only [litM, grd_t, grd_T, ldI_t, stI_t, ldA_t, stA_t, lenA_t, n_lt_t, n_lt_f, n_le_t, n_le_f, n_eq_t, n_eq_f, if_true, if_false, nI_add, nI_mul, bt_d, bI_z, bI_o, Option.bind_some, Bool.true_eq_false, Bool.false_eq_true, bI_f, hq]
          · simp (disch := first | assumption | omega) only [litM, grd_t, grd_T, ldI_t, stI_t, ldA_t, stA_t, lenA_t, n_lt_t, n_lt_f, n_le_t, n_le_f, n_eq_t, n_eq_f, if_true, if_false, nI_add, nI_mul, bt_d, bI_z, bI_o, Option.bind_some, Bool.true_eq_false, Bool.false_eq_true, m_lt, m_le, m_eq, m_eq2, s_within, not_false_eq_true, and_self, decide_true, hq, not_true, false_and, decide_false]
        · refine no _ _ ?_ ?_
          · simp (disch := first | assumption | omega) only [litM, grd_t, grd_T, ldI_t, stI_t, ldA_t, stA_t, lenA_t, n_lt_t, n_lt_f, n_le_t, n_le_f, n_eq_t, n_eq_f, if_true, if_false, nI_add, nI_mul, bt_d, bI_z, bI_o, Option.bind_some, Bool.true_eq_false, Bool.false_eq_true, bI_f, hq, n_nlt4 hq2]
          · simp (disch := first | assumption | omega) only [litM, grd_t, grd_T, ldI_t, stI_t, ldA_t, stA_t, lenA_t, n_lt_t, n_lt_f, n_le_t, n_le_f, n_eq_t, n_eq_f, if_true, if_false, nI_add, nI_mul, bt_d, bI_z, bI_o, Option.bind_some, Bool.true_eq_false, Bool.false_eq_true, m_lt, m_le, m_eq, m_eq2, s_within, not_false_eq_true, and_self, decide_true, hq, hq2, not_true, and_false, decide_false]
    · refine no _ _ ?_ ?_
      · simp (disch := first | assumption | omega) only [litM, grd_t, grd_T, ldI_t, stI_t, ldA_t, stA_t, lenA_t, n_lt_t, n_lt_f, n_le_t, n_le_f, n_eq_t, n_eq_f, if_true, if_false, nI_add, nI_mul, bt_d, bI_z, bI_o, Option.bind_some, Bool.true_eq_false, Bool.false_eq_true, hk]
      · simp (disch := first | assumption | omega) only [litM, grd_t, grd_T, ldI_t, stI_t, ldA_t, stA_t, lenA_t, n_lt_t, n_lt_f, n_le_t, n_le_f, n_eq_t, n_eq_f, if_true, if_false, nI_add, nI_mul, bt_d, bI_z, bI_o, Option.bind_some, Bool.true_eq_false, Bool.false_eq_true, m_lt, m_le, m_eq, m_eq2, s_within, hk, not_true, false_and, decide_false]
    · refine no _ _ ?_ ?_
      · simp (disch := first | assumption | omega) only [litM, grd_t, grd_T, ldI_t, stI_t, ldA_t, stA_t, lenA_t, n_lt_t, n_lt_f, n_le_t, n_le_f, n_eq_t, n_eq_f, if_true, if_false, nI_add, nI_mul, bt_d, bI_z, bI_o, Option.bind_some, Bool.true_eq_false, Bool.false_eq_true, hk, hk2]
      · simp (disch := first | assumption | omega) only [litM, grd_t, grd_T, ldI_t, stI_t, ldA_t, stA_t, lenA_t, n_lt_t, n_lt_f, n_le_t, n_le_f, n_eq_t, n_eq_f, if_true, if_false, nI_add, nI_mul, bt_d, bI_z, bI_o, Option.bind_some, Bool.true_eq_false, Bool.false_eq_true, m_lt, m_le, m_eq, m_eq2, s_within, hk, hk2, not_true, and_false, decide_false]
/-- the reference's number of an edit -/
def howOf (e : Nat) : Nat := [11, 12, 13, 15, 14, 16, 17].getD e 0
theorem edit_rel {σ τ : Sh} {X Y : Mx} {s L R m b t e : Nat} {x y z : Int32} (hs : stOK σ s L R) (hm : mdOK τ m) (hb : b ≤ 931) (ht : t < 2) (he : e < 7) (hS : StR X.1 s L R (Y.1 (m + 3)) b) :
    ∃ ok v X1 Y1, f_X5_doEdit σ X s (nI e) (nI t) x y z = some (v, X1) ∧ f_X10_does τ Y m (nI b) (nI t) (nI (howOf e)) x y z = some (bI ok, Y1) ∧ ER ok s L R m b X X1 Y Y1 ∧ (ok = false → v = -(nI 1)) ∧ (ok = true → v ≠ -(nI 1) ∧ (e = 5 → ∃ d, d < 2 ∧ Y.1 (m + 3) (b + 613 + t) = nI d ∧ v = nI (5 + 2 * t + d))) := by
  have fin : ∀ (ok : Bool) (X1 Y1 : Mx), e ≠ 5 → ER ok s L R m b X X1 Y Y1 → f_X5_doEdit σ X s (nI e) (nI t) x y z = (if bI ok = nI 0 then some (-(nI 1), X1) else some (nI 0, X1)) → f_X10_does τ Y m (nI b) (nI t) (nI (howOf e)) x y z = some (bI ok, Y1) → ∃ ok v X1 Y1, f_X5_doEdit σ X s (nI e) (nI t) x y z = some (v, X1) ∧ f_X10_does τ Y m (nI b) (nI t) (nI (howOf e)) x y z = some (bI ok, Y1) ∧ ER ok s L R m b X X1 Y Y1 ∧ (ok = false → v = -(nI 1)) ∧ (ok = true → v ≠ -(nI 1) ∧ (e = 5 → ∃ d, d < 2 ∧ Y.1 (m + 3) (b + 613 + t) = nI d ∧ v = nI (5 + 2 * t + d))) := by
    intro ok X1 Y1 h5 hE h1 h2
    cases ok with
    | false => exact ⟨false, -(nI 1), X1, Y1, h1, h2, hE, fun _ => rfl, fun h => by cases h⟩
    | true => exact ⟨true, nI 0, X1, Y1, h1, h2, hE, fun h => (by cases h), fun _ => ⟨by decide, fun q => absurd q h5⟩⟩
  have g01 : ∀ ok : Bool, (bI ok = nI 0 ∨ bI ok = nI 1) := fun ok => match ok with
    | false => Or.inl rfl
    | true => Or.inr rfl
  have s0 := hs.1
  have m0 := hm.1
  rcases (show e = 0 ∨ e = 1 ∨ e = 2 ∨ e = 3 ∨ e = 4 ∨ e = 5 ∨ e = 6 by omega) with rfl | rfl | rfl | rfl | rfl | rfl | rfl
  · obtain ⟨ok, X1, Y1, e1, e2, hE⟩ := ed_set (x := x) (y := y) (z := z) hs hm hb ht hS
    refine fin ok X1 Y1 (by omega) hE ?_ ?_
    · simp (disch := first | assumption | omega) only [f_X5_doEdit, litM, grd_t, s_sideOf hs, Option.bind_some, n_eq_t, n_eq_f, if_true, if_false, e1, bnd2]
    · simp (disch := first | assumption | omega) only [f_X10_does, howOf, List.getD, List.getElem?_cons_zero, Option.getD_some, litM, grd_t, n_eq_t, n_eq_f, if_true, if_false, e2, bnd2, g01, grd_T]
  · obtain ⟨ok, X1, Y1, e1, e2, hE⟩ := ed_insert (x := x) hs hm hb ht hS
    refine fin ok X1 Y1 (by omega) hE ?_ ?_
    · simp (disch := first | assumption | omega) only [f_X5_doEdit, litM, grd_t, s_sideOf hs, Option.bind_some, n_eq_t, n_eq_f, if_true, if_false, e1, bnd2]
    · rw [show howOf 1 = 12 from rfl]
      simp (disch := first | assumption | omega) only [f_X10_does, litM, grd_t, n_eq_t, n_eq_f, if_true, if_false, e2, bnd2, g01, grd_T]
  · obtain ⟨ok, X1, Y1, e1, e2, hE⟩ := ed_delete (x := x) (y := y) (z := z) hs hm hb ht hS
    refine fin ok X1 Y1 (by omega) hE ?_ e2
    simp (disch := first | assumption | omega) only [f_X5_doEdit, litM, grd_t, s_sideOf hs, Option.bind_some, n_eq_t, n_eq_f, if_true, if_false, e1, bnd2]
  · obtain ⟨ok, X1, Y1, e1, e2, hE⟩ := ed_retype (x := x) (y := y) hs hm hb ht hS
    refine fin ok X1 Y1 (by omega) hE ?_ ?_
    · simp (disch := first | assumption | omega) only [f_X5_doEdit, litM, grd_t, s_sideOf hs, Option.bind_some, n_eq_t, n_eq_f, if_true, if_false, e1, bnd2]
    · rw [show howOf 3 = 15 from rfl]
      simp (disch := first | assumption | omega) only [f_X10_does, litM, grd_t, n_eq_t, n_eq_f, if_true, if_false, e2, bnd2, g01, grd_T]
  · obtain ⟨ok, X1, Y1, e1, e2, hE⟩ := ed_rename (x := x) (y := y) hs hm hb ht hS
    refine fin ok X1 Y1 (by omega) hE ?_ ?_
    · simp (disch := first | assumption | omega) only [f_X5_doEdit, litM, grd_t, s_sideOf hs, Option.bind_some, n_eq_t, n_eq_f, if_true, if_false, e1, bnd2]
    · rw [show howOf 4 = 14 from rfl]
      simp (disch := first | assumption | omega) only [f_X10_does, litM, grd_t, n_eq_t, n_eq_f, if_true, if_false, e2, bnd2, g01, grd_T]
  · obtain ⟨ok, v, X1, Y1, e1, e2, hE, h1, h2⟩ := ed_add (x := x) (y := y) hs hm hb ht hS
    refine ⟨ok, v, X1, Y1, ?_, ?_, hE, h1, fun h => ⟨?_, fun _ => h2 h⟩⟩
    · simp (disch := first | assumption | omega) only [f_X5_doEdit, litM, grd_t, s_sideOf hs, Option.bind_some, n_eq_t, n_eq_f, if_true, if_false, e1, bnd2]
    · rw [show howOf 5 = 16 from rfl]
      simp (disch := first | assumption | omega) only [f_X10_does, litM, grd_t, n_eq_t, n_eq_f, if_true, if_false, e2, bnd2, g01, grd_T]
    · obtain ⟨d, d1, -, rfl⟩ := h2 h
      intro q
      exact absurd q (of_eq_false (m_eq (by omega)))
  · obtain ⟨ok, X1, Y1, e1, e2, hE⟩ := ed_drop (x := x) (y := y) (z := z) hs hm hb ht hS
    refine fin ok X1 Y1 (by omega) hE ?_ e2
    simp (disch := first | assumption | omega) only [f_X5_doEdit, litM, grd_t, s_sideOf hs, Option.bind_some, n_eq_t, n_eq_f, if_true, if_false, e1, bnd2]
