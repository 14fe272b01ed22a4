theorem ed_insert {σ τ : Sh} {X Y : Mx} {s L R m b t : Nat} {x : Int32} (hs : stOK σ s L R) (hm : mdOK τ m) (hb : b ≤ 931) (ht : t < 2) (hS : StR X.1 s L R (Y.1 (m + 3)) b) :
    ∃ ok X1 Y1, f_X5_insertRow σ X s (sd t L R) x = some (bI ok, X1) ∧ f_X10_inserts τ Y m (nI b) (nI t) x = some (bI ok, Y1) ∧ ER ok s L R m b X X1 Y Y1 := by
  have hT := hS.tab ht
  have hO := sd_ok hs t
  have hi := sd_in hs t
  obtain ⟨b0, b1, b2, b3, b4, b5, b6⟩ := id hT
  have hO' := hO
  have hm' := hm
  unfold f_X5_insertRow f_X10_inserts
  rw [grd_t hs.1, grd_t hm.1]
  rcases i32_cases x 20 (by omega) with ⟨k, hk, rfl⟩ | hk | ⟨hk, hk2⟩
  · have hr : f_X10_hasRow τ Y m (nI b) (nI t) (nI k) = some (bI (bt (X.1 (sd t L R) 1) k)) := by rw [s10_hasRow hm hb (by omega), ← b1, inB_n hk (by omega)]
    obtain ⟨h1, h2, h3, h4, h5, h6, h7, h8, h9, h10⟩ := hO
    obtain ⟨m0, m1, m2, m3, m4, m5, m6, m7, m8, m9, m10, m11, m12, m13, m14, m15, m16, m17, mq1, mq2, mq3, mq4, mq5, mq6, mq7, mq8, mq9, mq10, mq11, mq12, mq13, mq14, mq15, mq16, mq17, mn1, mn2, mn3, mn4, mn5, mn6, mn7, mn8, mn9, mn10, mn11, mn12, mn13, mn14, mn15, mn16, mn17⟩ := hm
    have eW : Y.1 (m + 3) (b + 200 * t + 1) = X.1 (sd t L R) 1 := b1.symm
    simp (disch := first | assumption | omega) only [litM, grd_t, grd_T, ldI_t, stI_t, ldA_t, stA_t, lenA_t, n_lt_t, n_lt_f, n_le_t, n_le_f, n_eq_t, n_eq_f, if_true, if_false, nI_add, nI_mul, bt_d, bI_z, bI_o, Option.bind_some, Bool.true_eq_false, Bool.false_eq_true, ldR, eq_self, if_true, Option.bind_some, h1, m0, m3, s_hasRow hO', s_putRow hO', inB_n, hr, s_within, not_false_eq_true, and_self, decide_true, eW, s_bits, s_bitCount b3]
    cases bk : bt (X.1 (sd t L R) 1) k with
    | true => exact ⟨false, X, Y, rfl, rfl, ER.no hS⟩
    | false =>
      rw [if_pos rfl, if_pos rfl]
      have hc20 := cnt_le 20 (X.1 (sd t L R) 1)
      by_cases e12 : cnt 20 (X.1 (sd t L R) 1) < 12
      · simp (disch := first | assumption | omega) only [litM, grd_t, grd_T, ldI_t, stI_t, ldA_t, stA_t, lenA_t, n_lt_t, n_lt_f, n_le_t, n_le_f, n_eq_t, n_eq_f, if_true, if_false, nI_add, nI_mul, bt_d, bI_z, bI_o, Option.bind_some, Bool.true_eq_false, Bool.false_eq_true]
        obtain ⟨n, Z, e, z2, zq, zi, zj⟩ := upd_loop (F := fun n y c => f_X10_inserts_67 τ m (nI b) (nI t) (nI k) n y (nI c)) (Y := sI Y (m + 3) (b + 200 * t + 1) (X.1 (sd t L R) 1 ||| ((1 : Int32) <<< (nI k &&& 31)))) (a := m + 3) (N := 9) (idx := fun c => b + 200 * t + 20 + 9 * k + c) (p := fun _ => true) (g := fun _ _ => nI 9999) (fun i j _ _ h => by omega) (by
          intro n y c hc _ _ _
          show f_X10_inserts_67 τ m (nI b) (nI t) (nI k) (n + 1) y (nI c) = f_X10_inserts_67 τ m (nI b) (nI t) (nI k) n _ (nI (c + 1))
          rw [f_X10_inserts_67]
          simp (disch := first | assumption | omega) only [litM, grd_t, grd_T, ldI_t, stI_t, ldA_t, stA_t, lenA_t, n_lt_t, n_lt_f, n_le_t, n_le_f, n_eq_t, n_eq_f, if_true, if_false, nI_add, nI_mul, bt_d, bI_z, bI_o, Option.bind_some, Bool.true_eq_false, Bool.false_eq_true, ldR, eq_self, if_true, Option.bind_some, m0, m3, s10_cellAt]) (by rw [FU_40000]; omega)
        have e : f_X10_inserts_67 τ m (nI b) (nI t) (nI k) FU (sI Y (m + 3) (b + 200 * t + 1) (X.1 (sd t L R) 1 ||| ((1 : Int32) <<< (nI k &&& 31)))) (nI 0) = f_X10_inserts_67 τ m (nI b) (nI t) (nI k) (n + 1) Z (nI 9) := e
        have e' : f_X10_inserts_67 τ m (nI b) (nI t) (nI k) (n + 1) Z (nI 9) = some (nI 1, Z) := by
          rw [f_X10_inserts_67]; exact if_pos (Int32.le_refl _)
        refine ⟨true, sI X (sd t L R) 1 (X.1 (sd t L R) 1 ||| ((1 : Int32) <<< (nI k &&& 31))), Z, rfl, e.trans e', hS.own hs.lr ht (fun q h1 h2 h3 => sI_ne (by omega)) (fun j h1 h2 => ?_) (hT.insert hk bk (sI_nk (by omega)) sI_eq (sI_ne (by omega)) (sI_ne (by omega)) (sI_ne (by omega)) (fun j => ?_)) (fun c h => by rw [sI_nk (by omega)]; exact h), ⟨rfl, fun q hq => sI_ne (by omega)⟩, ⟨z2, fun q hq => by rw [zq q hq, sI_ne hq], fun j hj => ?_⟩, fun h => by cases h⟩
        · rw [zj _ (fun i hi => by omega), sI_nk (by omega)]
        · by_cases ej : b + 200 * t + 20 + 9 * k ≤ j ∧ j < b + 200 * t + 20 + 9 * k + 9
          · rw [if_pos ej]
            have := zi (j - (b + 200 * t + 20 + 9 * k)) (by omega)
            rw [show b + 200 * t + 20 + 9 * k + (j - (b + 200 * t + 20 + 9 * k)) = j by omega] at this
            exact this
          · rw [if_neg ej, zj j (fun i hi => by omega), sI_get, ← b1]
        · rw [zj _ (fun i hi => by omega), sI_nk (by omega)]
      · simp (disch := first | assumption | omega) only [litM, grd_t, grd_T, ldI_t, stI_t, ldA_t, stA_t, lenA_t, n_lt_t, n_lt_f, n_le_t, n_le_f, n_eq_t, n_eq_f, if_true, if_false, nI_add, nI_mul, bt_d, bI_z, bI_o, Option.bind_some, Bool.true_eq_false, Bool.false_eq_true]
        exact ⟨false, X, Y, rfl, rfl, ER.no hS⟩
  · refine ⟨false, X, Y, ?_, ?_, ER.no hS⟩
    · simp (disch := first | assumption | omega) only [litM, grd_t, grd_T, ldI_t, stI_t, ldA_t, stA_t, lenA_t, n_lt_t, n_lt_f, n_le_t, n_le_f, n_eq_t, n_eq_f, if_true, if_false, nI_add, nI_mul, bt_d, bI_z, bI_o, Option.bind_some, Bool.true_eq_false, Bool.false_eq_true, hk]; rfl
    · simp (disch := first | assumption | omega) only [litM, grd_t, grd_T, ldI_t, stI_t, ldA_t, stA_t, lenA_t, n_lt_t, n_lt_f, n_le_t, n_le_f, n_eq_t, n_eq_f, if_true, if_false, nI_add, nI_mul, bt_d, bI_z, bI_o, Option.bind_some, Bool.true_eq_false, Bool.false_eq_true, s_within, hk, not_true, false_and, decide_false]; rfl
  · refine ⟨false, X, Y, ?_, ?_, ER.no hS⟩
    · simp (disch := first | assumption | omega) only [litM, grd_t, grd_T, ldI_t, stI_t, ldA_t, stA_t, lenA_t, n_lt_t, n_lt_f, n_le_t, n_le_f, n_eq_t, n_eq_f, if_true, if_false, nI_add, nI_mul, bt_d, bI_z, bI_o, Option.bind_some, Bool.true_eq_false, Bool.false_eq_true, hk, hk2]; rfl
    · simp (disch := first | assumption | omega) only [litM, grd_t, grd_T, ldI_t, stI_t, ldA_t, stA_t, lenA_t, n_lt_t, n_lt_f, n_le_t, n_le_f, n_eq_t, n_eq_f, if_true, if_false, nI_add, nI_mul, bt_d, bI_z, bI_o, Option.bind_some, Bool.true_eq_false, Bool.false_eq_true, s_within, hk, hk2, not_true, and_false, decide_false]; rfl
theorem ed_retype {σ τ : Sh} {X Y : Mx} {s L R m b t : Nat} {x y : Int32} (hs : stOK σ s L R) (hm : mdOK τ m) (hb : b ≤ 931) (ht : t < 2) (hS : StR X.1 s L R (Y.1 (m + 3)) b) :
    ∃ ok X1 Y1, f_X5_retypeColumn σ X s (sd t L R) x y = some (bI ok, X1) ∧ f_X10_retypes τ Y m (nI b) (nI t) x y = some (bI ok, Y1) ∧ ER ok s L R m b X X1 Y Y1 := by
  have hT := hS.tab ht
  have hO := sd_ok hs t
  have hi := sd_in hs t
  obtain ⟨b0, b1, b2, b3, b4, b5, b6⟩ := id hT
  have hr : f_X10_hasColumn τ Y m (nI b) (nI t) x = some (bI (inB 9 (X.1 (sd t L R) 0) x)) := by rw [s10_hasColumn hm hb (by omega), ← b0]
  unfold f_X5_retypeColumn f_X10_retypes
  rw [grd_t hs.1, grd_t hm.1, s_hasColumn hO, hr]
  cases e1 : inB 9 (X.1 (sd t L R) 0) x with
  | false => exact ⟨false, X, Y, rfl, rfl, ER.no hS⟩
  | true =>
    obtain ⟨c, hc, rfl, bc⟩ := inB_ex (by omega) e1
    obtain ⟨-, c2, q0, hq0, c3⟩ := b4 c hc bc
    have et : f_X10_typeAt τ Y m (nI b) (nI t) (nI c) = some (nI q0) := by rw [s10_typeAt hm hb (by omega) hc, ← c2, c3]
    have hO' := hO
    have hm' := hm
    obtain ⟨h1, h2, h3, h4, h5, h6, h7, h8, h9, h10⟩ := hO
    obtain ⟨m0, m1, m2, m3, m4, m5, m6, m7, m8, m9, m10, m11, m12, m13, m14, m15, m16, m17, mq1, mq2, mq3, mq4, mq5, mq6, mq7, mq8, mq9, mq10, mq11, mq12, mq13, mq14, mq15, mq16, mq17, mn1, mn2, mn3, mn4, mn5, mn6, mn7, mn8, mn9, mn10, mn11, mn12, mn13, mn14, mn15, mn16, mn17⟩ := hm
    rcases i32_cases y 4 (by omega) with ⟨q, hq, rfl⟩ | hk | ⟨hk, hk2⟩
    · simp (disch := first | assumption | omega) only [litM, grd_t, grd_T, ldI_t, stI_t, ldA_t, stA_t, lenA_t, n_lt_t, n_lt_f, n_le_t, n_le_f, n_eq_t, n_eq_f, if_true, if_false, nI_add, nI_mul, bt_d, bI_z, bI_o, Option.bind_some, Bool.true_eq_false, Bool.false_eq_true, ldR, eq_self, if_true, Option.bind_some, h1, h3, m0, m3, bI_t, s_within, not_false_eq_true, and_self, decide_true, et, c3]
      by_cases eq : q0 = q
      · subst eq
        refine ⟨false, X, Y, ?_, ?_, ER.no hS⟩
        · simp only [if_true]; rfl
        · simp only [if_true]; rfl
      · rw [if_neg (show ¬ nI q0 = nI q from fun z => eq ((nI_eq (by omega) (by omega)).mp z)), if_neg (show ¬ nI q0 = nI q from fun z => eq ((nI_eq (by omega) (by omega)).mp z))]
        obtain ⟨n, Z, e, z2, zq, zi, zj⟩ := upd_loop (F := fun n x k => f_X5_retypeColumn_39 σ (sd t L R) (nI c) (nI q) n x (nI k)) (Y := sI X (sd t L R + 2) c (nI q)) (a := sd t L R + 3) (N := 20) (idx := fun k => 9 * k + c) (p := fun _ => true) (g := fun _ v => f_X8_cast v (nI q)) (fun i j _ _ h => by omega) (by
          intro n y k hk _ _ _
          show f_X5_retypeColumn_39 σ (sd t L R) (nI c) (nI q) (n + 1) y (nI k) = f_X5_retypeColumn_39 σ (sd t L R) (nI c) (nI q) n _ (nI (k + 1))
          rw [f_X5_retypeColumn_39]
          simp (disch := first | assumption | omega) only [litM, grd_t, grd_T, ldI_t, stI_t, ldA_t, stA_t, lenA_t, n_lt_t, n_lt_f, n_le_t, n_le_f, n_eq_t, n_eq_f, if_true, if_false, nI_add, nI_mul, bt_d, bI_z, bI_o, Option.bind_some, Bool.true_eq_false, Bool.false_eq_true, s_numberAt hO', s_putNumber hO']) (by rw [FU_40000]; omega)
        obtain ⟨n', V, f, v2, vq, vi, vj⟩ := upd_loop (F := fun n y k => f_X10_retypes_56 τ m (nI b) (nI t) (nI c) (nI q) n y (nI k)) (Y := sI Y (m + 3) (b + 200 * t + 11 + c) (nI q)) (a := m + 3) (N := 20) (idx := fun k => b + 200 * t + 20 + 9 * k + c) (p := fun k => bt (X.1 (sd t L R) 1) k) (g := fun _ v => f_X10_castTo (nI q) v) (fun i j _ _ h => by omega) (by
          intro n y k hk _ _ hj
          show f_X10_retypes_56 τ m (nI b) (nI t) (nI c) (nI q) (n + 1) y (nI k) = f_X10_retypes_56 τ m (nI b) (nI t) (nI c) (nI q) n _ (nI (k + 1))
          rw [f_X10_retypes_56]
          have hrow : f_X10_hasRow τ y m (nI b) (nI t) (nI k) = some (bI (bt (X.1 (sd t L R) 1) k)) := by
            rw [s10_hasRow hm' hb (by omega), inB_n hk (by omega), hj _ (fun i hi => by omega), sI_nk (by omega), ← b1]
          simp (disch := first | assumption | omega) only [litM, grd_t, grd_T, ldI_t, stI_t, ldA_t, stA_t, lenA_t, n_lt_t, n_lt_f, n_le_t, n_le_f, n_eq_t, n_eq_f, if_true, if_false, nI_add, nI_mul, bt_d, bI_z, bI_o, Option.bind_some, Bool.true_eq_false, Bool.false_eq_true, ldR, eq_self, if_true, Option.bind_some, m0, m3, hrow, s10_cellAt, f_X10_retypes_105]
          cases bt (X.1 (sd t L R) 1) k <;> rfl) (by rw [FU_40000]; omega)
        have e' : f_X5_retypeColumn_39 σ (sd t L R) (nI c) (nI q) (n + 1) Z (nI 20) = some (nI 1, Z) := by
          rw [f_X5_retypeColumn_39]; exact if_pos (Int32.le_refl _)
        have f' : f_X10_retypes_56 τ m (nI b) (nI t) (nI c) (nI q) (n' + 1) V (nI 20) = some (nI 1, V) := by
          rw [f_X10_retypes_56]; exact if_pos (Int32.le_refl _)
        have x3 : ∀ j, Z.1 (sd t L R + 3) j = if j % 9 = c ∧ j < 180 then f_X8_cast (X.1 (sd t L R + 3) j) (nI q) else X.1 (sd t L R + 3) j := by
          intro j
          by_cases ej : j % 9 = c ∧ j < 180
          · rw [if_pos ej]
            have := zi (j / 9) (by omega)
            rw [show 9 * (j / 9) + c = j by omega] at this
            rw [this, sI_na (by omega)]; rfl
          · rw [if_neg ej, zj j (fun i hi => by omega), sI_na (by omega)]
        refine ⟨true, Z, V, e.trans e', f.trans f', hS.own hs.lr ht (fun q h1 h2 h3 => by rw [zq q (by omega), sI_ne (by omega)]) (fun j h1 h2 => by rw [vj _ (fun i hi => by omega), sI_nk (by omega)]) (hT.retype hc hq (by rw [zq _ (by omega), sI_ne (by omega)]) (by rw [zq _ (by omega), sI_ne (by omega)]) (fun j => by rw [zq _ (by omega)]; exact sI_get) x3 (fun j hj => ?_) (fun i d hi hd => ?_)) (fun c h => by rw [zq _ (by omega), sI_na (by omega)]; exact h), ⟨z2, fun q hq => by rw [zq q (by omega), sI_ne (by omega)]⟩, ⟨v2, fun q hq => by rw [vq q hq, sI_ne hq], fun j hj => by rw [vj _ (fun i hi => by omega), sI_nk (by omega)]⟩, fun h => by cases h⟩
        · rw [vj j (fun i hi => by omega)]; exact sI_get
        · by_cases ed : d = c
          · subst ed
            rw [vi i hi, sI_nk (by omega)]
            cases bt (X.1 (sd t L R) 1) i <;> simp
          · rw [if_neg (fun z => ed z.1), vj _ (fun i' hi' => by omega), sI_nk (by omega)]
    · refine ⟨false, X, Y, ?_, ?_, ER.no hS⟩
      · simp (disch := first | assumption | omega) only [litM, grd_t, grd_T, ldI_t, stI_t, ldA_t, stA_t, lenA_t, n_lt_t, n_lt_f, n_le_t, n_le_f, n_eq_t, n_eq_f, if_true, if_false, nI_add, nI_mul, bt_d, bI_z, bI_o, Option.bind_some, Bool.true_eq_false, Bool.false_eq_true, bI_t, hk]; rfl
      · simp (disch := first | assumption | omega) only [litM, grd_t, grd_T, ldI_t, stI_t, ldA_t, stA_t, lenA_t, n_lt_t, n_lt_f, n_le_t, n_le_f, n_eq_t, n_eq_f, if_true, if_false, nI_add, nI_mul, bt_d, bI_z, bI_o, Option.bind_some, Bool.true_eq_false, Bool.false_eq_true, bI_t, s_within, hk, not_true, false_and, decide_false]; rfl
    · refine ⟨false, X, Y, ?_, ?_, ER.no hS⟩
      · simp (disch := first | assumption | omega) only [litM, grd_t, grd_T, ldI_t, stI_t, ldA_t, stA_t, lenA_t, n_lt_t, n_lt_f, n_le_t, n_le_f, n_eq_t, n_eq_f, if_true, if_false, nI_add, nI_mul, bt_d, bI_z, bI_o, Option.bind_some, Bool.true_eq_false, Bool.false_eq_true, bI_t, hk, hk2]; rfl
      · simp (disch := first | assumption | omega) only [litM, grd_t, grd_T, ldI_t, stI_t, ldA_t, stA_t, lenA_t, n_lt_t, n_lt_f, n_le_t, n_le_f, n_eq_t, n_eq_f, if_true, if_false, nI_add, nI_mul, bt_d, bI_z, bI_o, Option.bind_some, Bool.true_eq_false, Bool.false_eq_true, bI_t, s_within, hk, hk2, not_true, and_false, decide_false]; rfl
/-- .. with a new column -/
theorem StR.grow {X X1 : Nat → Nat → Int32} {W W1 : Nat → Int32} {s L R b t e : Nat} (h : StR X s L R W b) (hLR : (L = s + 5 ∧ R = s + 9) ∨ (L = s + 9 ∧ R = s + 5)) (ht : t < 2) (he : e < 2) (hX : ∀ q, s < q → q ≤ s + 16 → ¬ (sd t L R ≤ q ∧ q ≤ sd t L R + 3) → X1 q = X q) (hXs : ∀ j, X1 s j = if j = 3 + t then nI (e + 1) else X s j) (hW : ∀ j, j < 931 → ¬ (200 * t ≤ j ∧ j < 200 * t + 200) → j ≠ 613 + t → W1 (b + j) = W (b + j)) (hWs : W1 (b + 613 + t) = nI (e + 1)) (hT : TabR X1 (sd t L R) W1 (b + 200 * t)) (hold : ∀ j, e ≤ j → j < 2 → bt (X (sd t L R) 0) (5 + 2 * t + j) = false) (hbits : ∀ c, bt (X1 (sd t L R) 0) c = (bt (X (sd t L R) 0) c || decide (c = 5 + 2 * t + e))) : StR X1 s L R W1 b := by
  obtain ⟨tL, tR, tB, lB, lL, lR, ⟨d, d1, d2, d3, d4⟩, ⟨p, p1, p2, p3, p4⟩, ⟨q, q1, q2, q3, q4⟩, cs⟩ := h
  have hsd : sd t L R = if t = 0 then L else R := rfl
  have h13 : X1 (s + 13) = X (s + 13) := hX _ (by omega) (by omega) (by rw [hsd]; split <;> omega)
  have h14 : X1 (s + 14) = X (s + 14) := hX _ (by omega) (by omega) (by rw [hsd]; split <;> omega)
  have h15 : X1 (s + 15) = X (s + 15) := hX _ (by omega) (by omega) (by rw [hsd]; split <;> omega)
  have h16 : X1 (s + 16) = X (s + 16) := hX _ (by omega) (by omega) (by rw [hsd]; split <;> omega)
  have hB1 : X1 (s + 1) = X (s + 1) := hX _ (by omega) (by omega) (by rw [hsd]; split <;> omega)
  have hB : TabR X1 (s + 1) W1 (b + 200 * 2) := tB.fr (fun q h1 h2 => hX q (by omega) (by omega) (by rw [hsd]; split <;> omega)) (fun j h1 h2 => by
    obtain ⟨i, rfl⟩ : ∃ i, j = b + i := ⟨j - b, by omega⟩
    exact hW i (by omega) (by omega) (by omega))
  have hdem : ∀ i, i < d → ∃ kd f r, kd < 3 ∧ f < 9 ∧ r < 9 ∧ X1 (s + 13) i = nI kd ∧ X1 (s + 14) i = nI f ∧ X1 (s + 15) i = nI r ∧ W1 (b + 601 + i) = nI kd ∧ W1 (b + 605 + i) = nI f ∧ (kd = 2 → W1 (b + 609 + i) = nI r) ∧ (kd ≠ 2 → r = f) := by
    intro i hi
    obtain ⟨kd, f, r, c1, c2, c3, c4, c5, c6, c7, c8, c9, c10⟩ := d4 i hi
    have w1 := hW (601 + i) (by omega) (by omega) (by omega)
    have w2 := hW (605 + i) (by omega) (by omega) (by omega)
    have w3 := hW (609 + i) (by omega) (by omega) (by omega)
    rw [← Nat.add_assoc] at w1 w2 w3
    rw [h13, h14, h15]
    exact ⟨kd, f, r, c1, c2, c3, c4, c5, c6, w1.trans c7, w2.trans c8, fun e => w3.trans (c9 e), c10⟩
  have hch : ∀ i, i < 316 → X1 (s + 16) i = W1 (b + 615 + i) ∧ chOI i (X1 (s + 16) i) := by
    intro i hi
    have w1 := hW (615 + i) (by omega) (by omega) (by omega)
    rw [← Nat.add_assoc] at w1
    rw [h16]
    exact ⟨(cs i hi).1.trans w1.symm, (cs i hi).2⟩
  have e600 := hW 600 (by omega) (by omega) (by omega)
  have e5 : X1 s 5 = X s 5 := by rw [hXs, if_neg (by omega)]
  rcases (show t = 0 ∨ t = 1 by omega) with rfl | rfl
  · have hs0 : sd 0 L R = L := rfl
    rw [hs0] at hT hbits hX hold
    have hR : TabR X1 R W1 (b + 200 * 1) := tR.fr (fun q h1 h2 => hX q (by omega) (by omega) (by omega)) (fun j h1 h2 => by
      obtain ⟨i, rfl⟩ : ∃ i, j = b + i := ⟨j - b, by omega⟩
      exact hW i (by omega) (by omega) (by omega))
    have hR1 : X1 R = X R := hX R (by omega) (by omega) (by omega)
    have e614 := hW 614 (by omega) (by omega) (by omega)
    have e4 : X1 s 4 = X s 4 := by rw [hXs, if_neg (by omega)]
    have e3 : X1 s 3 = nI (e + 1) := by rw [hXs, if_pos rfl]
    refine ⟨hT, hR, hB, by rw [hB1]; exact lB, ⟨by rw [hbits, lL.1]; simp; omega, by rw [hbits, lL.2]; simp; omega⟩, by rw [hR1]; exact lR, ⟨d, d1, by rw [e5]; exact d2, e600.trans d3, hdem⟩, ⟨e + 1, by omega, e3, hWs, fun j h1 h2 => ?_⟩, ⟨q, q1, by rw [e4]; exact q2, e614.trans q3, by rw [hR1]; exact q4⟩, hch⟩
    rw [hbits]
    have := hold j (by omega) h2
    rw [show 5 + 2 * 0 + j = 5 + j by omega] at this
    rw [this]; simp; omega
  · have hs0 : sd 1 L R = R := rfl
    rw [hs0] at hT hbits hX hold
    have hL : TabR X1 L W1 (b + 200 * 0) := tL.fr (fun q h1 h2 => hX q (by omega) (by omega) (by omega)) (fun j h1 h2 => by
      obtain ⟨i, rfl⟩ : ∃ i, j = b + i := ⟨j - b, by omega⟩
      exact hW i (by omega) (by omega) (by omega))
    have hL1 : X1 L = X L := hX L (by omega) (by omega) (by omega)
    have e613 := hW 613 (by omega) (by omega) (by omega)
    have e3 : X1 s 3 = X s 3 := by rw [hXs, if_neg (by omega)]
    have e4 : X1 s 4 = nI (e + 1) := by rw [hXs, if_pos rfl]
    refine ⟨hL, hT, hB, by rw [hB1]; exact lB, by rw [hL1]; exact lL, ⟨by rw [hbits, lR.1]; simp; omega, by rw [hbits, lR.2]; simp; omega⟩, ⟨d, d1, by rw [e5]; exact d2, e600.trans d3, hdem⟩, ⟨p, p1, by rw [e3]; exact p2, e613.trans p3, by rw [hL1]; exact p4⟩, ⟨e + 1, by omega, e4, hWs, fun j h1 h2 => ?_⟩, hch⟩
    rw [hbits]
    have := hold j (by omega) h2
    rw [show 5 + 2 * 1 + j = 7 + j by omega] at this
    rw [this]; simp; omega
