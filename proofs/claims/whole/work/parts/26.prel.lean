/-- a State at s, its Tables and rows behind it; L and R are its sides' Tables -/
def stOK (σ : Sh) (s L R : Nat) : Prop := shK σ s = 4 ∧ shR σ s 0 = some (s + 1) ∧ shR σ s 1 = some L ∧ shR σ s 2 = some R ∧ shR σ s 6 = some (s + 13) ∧ shR σ s 7 = some (s + 14) ∧ shR σ s 8 = some (s + 15) ∧ shR σ s 9 = some (s + 16) ∧ tabOK σ (s + 1) ∧ tabOK σ L ∧ tabOK σ R ∧ shK σ (s + 13) = 10 ∧ shN σ (s + 13) = 4 ∧ shK σ (s + 14) = 10 ∧ shN σ (s + 14) = 4 ∧ shK σ (s + 15) = 10 ∧ shN σ (s + 15) = 4 ∧ (shK σ (s + 16) = 10 ∧ shN σ (s + 16) = 316) ∧ ((L = s + 5 ∧ R = s + 9) ∨ (L = s + 9 ∧ R = s + 5))
def sd (t L R : Nat) : Nat := if t = 0 then L else R
theorem sd_ok {σ : Sh} {s L R : Nat} (h : stOK σ s L R) (t : Nat) : tabOK σ (sd t L R) := by
  unfold sd; split
  · exact h.2.2.2.2.2.2.2.2.2.1
  · exact h.2.2.2.2.2.2.2.2.2.2.1
theorem s_sideOf {σ : Sh} {X : Mx} {s L R t : Nat} (h : stOK σ s L R) (ht : t < 2) : f_X5_sideOf σ X s (nI t) = some (sd t L R) := by
  obtain ⟨s0, s1, s2, s3, s4, s5, s6, s7, s8, s9, s10, s11, s12, s13, s14, s15, s16, s17, s18⟩ := h
  rcases (show t = 0 ∨ t = 1 by omega) with rfl | rfl
  · simp (disch := first | assumption | omega) only [f_X5_sideOf, litN, grd_t, grd_T, ldI_t, stI_t, ldA_t, stA_t, lenA_t, n_lt_t, n_lt_f, n_le_t, n_le_f, n_eq_t, n_eq_f, if_true, if_false, nI_add, nI_mul, bt_d, bI_z, bI_o, Option.bind_some, Bool.true_eq_false, Bool.false_eq_true, ldR, s0, s2]; rfl
  · simp (disch := first | assumption | omega) only [f_X5_sideOf, litN, grd_t, grd_T, ldI_t, stI_t, ldA_t, stA_t, lenA_t, n_lt_t, n_lt_f, n_le_t, n_le_f, n_eq_t, n_eq_f, if_true, if_false, nI_add, nI_mul, bt_d, bI_z, bI_o, Option.bind_some, Bool.true_eq_false, Bool.false_eq_true, ldR, s0, s3]; rfl
def cChg (X : Nat → Nat → Int32) (bs ow k c : Nat) : Bool := bt (X ow 1) k && bt (X ow 0) c && decide (X (ow + 3) (9 * k + c) ≠ f_X8_cast (X (bs + 3) (9 * k + c)) (X (ow + 2) c))
theorem s_isChanged {σ : Sh} {X : Mx} {s L R t k c : Nat} (h : stOK σ s L R) (ht : t < 2) (hk : k < 20) (hc : c < 9) : f_X5_isChanged σ X s (nI t) (nI k) (nI c) = some (bI (cChg X.1 (s + 1) (sd t L R) k c)) := by
  have hS := h
  have hT := sd_ok h t
  have hT2 := hT
  obtain ⟨s0, s1, s2, s3, s4, s5, s6, s7, s8, s9, s10, s11, s12, s13, s14, s15, s16, s17, s18⟩ := h
  obtain ⟨h1, h2, h3, h4, h5, h6, h7, h8, h9, h10⟩ := hT
  simp (disch := first | assumption | omega) only [f_X5_isChanged, litN, grd_t, grd_T, ldI_t, stI_t, ldA_t, stA_t, lenA_t, n_lt_t, n_lt_f, n_le_t, n_le_f, n_eq_t, n_eq_f, if_true, if_false, nI_add, nI_mul, bt_d, bI_z, bI_o, Option.bind_some, Bool.true_eq_false, Bool.false_eq_true, s_sideOf hS, s_hasCell hT2, s_numberAt hT2, s_numberAt s8, inB_n, ldR, s0, s1, h1, h3, cChg]
  cases bt (X.1 (sd t L R) 1) k
  · simp; rfl
  · cases bt (X.1 (sd t L R) 0) c
    · simp; rfl
    · by_cases e : X.1 (sd t L R + 3) (9 * k + c) = f_X8_cast (X.1 (s + 1 + 3) (9 * k + c)) (X.1 (sd t L R + 2) c)
      · simp [e]; rfl
      · simp [e]; rfl
theorem s_isChanged_m {σ : Sh} {X : Mx} {s L R t k : Nat} (h : stOK σ s L R) (ht : t < 2) (hk : k < 20) : f_X5_isChanged σ X s (nI t) (nI k) (-(nI 1)) = some (nI 0) := by
  have hS := h
  have hT := sd_ok h t
  obtain ⟨s0, s1, s2, s3, s4, s5, s6, s7, s8, s9, s10, s11, s12, s13, s14, s15, s16, s17, s18⟩ := h
  have e : inB 9 (X.1 (sd t L R) 0) (-(nI 1)) = false := inB_lo (of_eq_true (m_lt (by omega)))
  simp (disch := first | assumption | omega) only [f_X5_isChanged, litN, grd_t, grd_T, ldI_t, stI_t, ldA_t, stA_t, lenA_t, n_lt_t, n_lt_f, n_le_t, n_le_f, n_eq_t, n_eq_f, if_true, if_false, nI_add, nI_mul, bt_d, bI_z, bI_o, Option.bind_some, Bool.true_eq_false, Bool.false_eq_true, s_sideOf hS, s_hasCell hT, inB_n, e, Bool.and_false]
theorem s_isColumnChanged {σ : Sh} {X : Mx} {s L R t c : Nat} (h : stOK σ s L R) (ht : t < 2) (hc : c < 9) : f_X5_isColumnChanged σ X s (nI t) (nI c) = some (bI (anyB (fun k => cChg X.1 (s + 1) (sd t L R) k c) 20)) := by
  have hS := h
  obtain ⟨s0, s1, s2, s3, s4, s5, s6, s7, s8, s9, s10, s11, s12, s13, s14, s15, s16, s17, s18⟩ := h
  unfold f_X5_isColumnChanged
  rw [grd_t s0]
  have := any_loop (F := fun n k => f_X5_isColumnChanged_2 σ X s (nI t) (nI c) n (nI k)) (N := 20) (p := fun k => cChg X.1 (s + 1) (sd t L R) k c) (e := false) (by
    intro n k hk
    rw [f_X5_isColumnChanged_2]
    simp (disch := first | assumption | omega) only [litN, grd_t, grd_T, ldI_t, stI_t, ldA_t, stA_t, lenA_t, n_lt_t, n_lt_f, n_le_t, n_le_f, n_eq_t, n_eq_f, if_true, if_false, nI_add, nI_mul, bt_d, bI_z, bI_o, Option.bind_some, Bool.true_eq_false, Bool.false_eq_true, s_isChanged hS]
    cases cChg X.1 (s + 1) (sd t L R) k c <;> simp) (by
    intro n
    rw [f_X5_isColumnChanged_2]
    simp (disch := first | assumption | omega) only [litN, grd_t, grd_T, ldI_t, stI_t, ldA_t, stA_t, lenA_t, n_lt_t, n_lt_f, n_le_t, n_le_f, n_eq_t, n_eq_f, if_true, if_false, nI_add, nI_mul, bt_d, bI_z, bI_o, Option.bind_some, Bool.true_eq_false, Bool.false_eq_true, bI_f]) FU 0 (by omega) (by decide) rfl
  rw [Bool.or_false] at this
  exact this
theorem s_isRowChanged {σ : Sh} {X : Mx} {s L R t k : Nat} (h : stOK σ s L R) (ht : t < 2) (hk : k < 20) : f_X5_isRowChanged σ X s (nI t) (nI k) = some (bI (anyB (fun c => cChg X.1 (s + 1) (sd t L R) k c) 9)) := by
  have hS := h
  obtain ⟨s0, s1, s2, s3, s4, s5, s6, s7, s8, s9, s10, s11, s12, s13, s14, s15, s16, s17, s18⟩ := h
  unfold f_X5_isRowChanged
  rw [grd_t s0]
  have := any_loop (F := fun n c => f_X5_isRowChanged_2 σ X s (nI t) (nI k) n (nI c)) (N := 9) (p := fun c => cChg X.1 (s + 1) (sd t L R) k c) (e := false) (by
    intro n c hc
    rw [f_X5_isRowChanged_2]
    simp (disch := first | assumption | omega) only [litN, grd_t, grd_T, ldI_t, stI_t, ldA_t, stA_t, lenA_t, n_lt_t, n_lt_f, n_le_t, n_le_f, n_eq_t, n_eq_f, if_true, if_false, nI_add, nI_mul, bt_d, bI_z, bI_o, Option.bind_some, Bool.true_eq_false, Bool.false_eq_true, s_isChanged hS]
    cases cChg X.1 (s + 1) (sd t L R) k c <;> simp) (by
    intro n
    rw [f_X5_isRowChanged_2]
    simp (disch := first | assumption | omega) only [litN, grd_t, grd_T, ldI_t, stI_t, ldA_t, stA_t, lenA_t, n_lt_t, n_lt_f, n_le_t, n_le_f, n_eq_t, n_eq_f, if_true, if_false, nI_add, nI_mul, bt_d, bI_z, bI_o, Option.bind_some, Bool.true_eq_false, Bool.false_eq_true, bI_f]) FU 0 (by omega) (by decide) rfl
  rw [Bool.or_false] at this
  exact this
theorem cast_eq {t : Nat} (v : Int32) (ht : t < 4) : f_X10_castTo (nI t) v = f_X8_cast v (nI t) := by
  rcases (show t = 0 ∨ t = 1 ∨ t = 2 ∨ t = 3 by omega) with rfl | rfl | rfl | rfl
  · simp (disch := first | assumption | omega) only [f_X10_castTo, f_X8_cast, litN, grd_t, grd_T, ldI_t, stI_t, ldA_t, stA_t, lenA_t, n_lt_t, n_lt_f, n_le_t, n_le_f, n_eq_t, n_eq_f, if_true, if_false, nI_add, nI_mul, bt_d, bI_z, bI_o, Option.bind_some, Bool.true_eq_false, Bool.false_eq_true]
  · simp (disch := first | assumption | omega) only [f_X10_castTo, f_X8_cast, litN, grd_t, grd_T, ldI_t, stI_t, ldA_t, stA_t, lenA_t, n_lt_t, n_lt_f, n_le_t, n_le_f, n_eq_t, n_eq_f, if_true, if_false, nI_add, nI_mul, bt_d, bI_z, bI_o, Option.bind_some, Bool.true_eq_false, Bool.false_eq_true]
    rw [show nI 0 - v = -v from Int32.zero_sub v]
  · simp (disch := first | assumption | omega) only [f_X10_castTo, f_X8_cast, litN, grd_t, grd_T, ldI_t, stI_t, ldA_t, stA_t, lenA_t, n_lt_t, n_lt_f, n_le_t, n_le_f, n_eq_t, n_eq_f, if_true, if_false, nI_add, nI_mul, bt_d, bI_z, bI_o, Option.bind_some, Bool.true_eq_false, Bool.false_eq_true]
  · simp (disch := first | assumption | omega) only [f_X10_castTo, f_X8_cast, litN, grd_t, grd_T, ldI_t, stI_t, ldA_t, stA_t, lenA_t, n_lt_t, n_lt_f, n_le_t, n_le_f, n_eq_t, n_eq_f, if_true, if_false, nI_add, nI_mul, bt_d, bI_z, bI_o, Option.bind_some, Bool.true_eq_false, Bool.false_eq_true]
theorem i32_999 {v : Int32} (h1 : ¬ v < -(nI 999)) (h2 : ¬ nI 999 < v) : ∃ i, i < 1999 ∧ v = nI i - nI 999 := by
  have a1 := Int32.le_iff_toInt_le.mp (Int32.not_lt.mp h1)
  have a2 := Int32.le_iff_toInt_le.mp (Int32.not_lt.mp h2)
  rw [show (-(nI 999)).toInt = -999 from by decide] at a1
  rw [nI_toInt (by omega)] at a2
  refine ⟨(v.toInt + 999).toNat, by omega, ?_⟩
  apply Int32.toInt_inj.mp
  rw [Int32.toInt_sub, nI_toInt (by omega), nI_toInt (by omega), Int.bmod_eq_of_le (by omega) (by omega)]
  omega
theorem holds_in : ∀ i, i < 1999 → ∀ t, t < 4 → f_X10_doesHold (nI t) (nI i - nI 999) = some (f_X8_holds (nI t) (nI i - nI 999)) := by decide +kernel
theorem holds_eq {t : Nat} (v : Int32) (ht : t < 4) : f_X10_doesHold (nI t) v = some (f_X8_holds (nI t) v) := by
  by_cases h1 : v < -(nI 999)
  · have a : v.toInt < -999 := by
      have := Int32.lt_iff_toInt_lt.mp h1
      rw [show (-(nI 999)).toInt = -999 from by decide] at this
      exact this
    have b1 : v < -999 := h1
    have b2 : v < -998 := by rw [Int32.lt_iff_toInt_lt, show (-998 : Int32).toInt = -998 from by decide]; omega
    have b3 : v < 0 := by rw [Int32.lt_iff_toInt_lt, show (0 : Int32).toInt = 0 from by decide]; omega
    have b4 : v ≠ 9999 := fun e => by rw [e] at b3; exact absurd b3 (by decide)
    unfold f_X10_doesHold f_X8_holds f_X10_within grd
    simp [b1, b2, b3, b4]
  · by_cases h2 : nI 999 < v
    · have a : 999 < v.toInt := by
        have := Int32.lt_iff_toInt_lt.mp h2
        rw [nI_toInt (by omega)] at this
        exact this
      have hf : ∀ n : Nat, n ≤ 999 → (nI n < v) := fun n hn => by rw [Int32.lt_iff_toInt_lt, nI_toInt (by omega)]; omega
      have c1 : (999 : Int32) < v := hf 999 (by omega)
      have c2 : (998 : Int32) < v := hf 998 (by omega)
      have c3 : (9 : Int32) < v := hf 9 (by omega)
      have c4 : (1 : Int32) < v := hf 1 (by omega)
      unfold f_X10_doesHold f_X8_holds f_X10_within grd
      by_cases e : v = 9999
      · simp [e]
      · have n1 : ¬ v < -999 := h1
        have n0 : ¬ v < 0 := by rw [Int32.lt_iff_toInt_lt, show (0 : Int32).toInt = 0 from by decide]; omega
        have n2 : ¬ v < -998 := by rw [Int32.lt_iff_toInt_lt, show (-998 : Int32).toInt = -998 from by decide]; omega
        have n3 : ¬ v ≤ 999 := Int32.not_le.mpr c1
        simp [e, n1, n0, n2, n3, c1, c2, c3, c4]
    · obtain ⟨i, hi, rfl⟩ := i32_999 h1 h2
      exact holds_in i hi t ht
/-- a Table of the class and one in the reference's row are alike -/
def TabR (X : Nat → Nat → Int32) (a : Nat) (W : Nat → Int32) (o : Nat) : Prop :=
  X a 0 = W o ∧ X a 1 = W (o + 1) ∧ low 9 (X a 0) ∧ low 20 (X a 1) ∧
  (∀ c, c < 9 → bt (X a 0) c = true → X (a + 1) c = W (o + 2 + c) ∧ X (a + 2) c = W (o + 11 + c) ∧ ∃ t, t < 4 ∧ X (a + 2) c = nI t) ∧
  (∀ k c, k < 20 → c < 9 → bt (X a 1) k = true → bt (X a 0) c = true → X (a + 3) (9 * k + c) = W (o + 20 + 9 * k + c)) ∧
  (∀ k c, k < 20 → c < 9 → (bt (X a 1) k = false ∨ bt (X a 0) c = false) → X (a + 3) (9 * k + c) = nI 9999)
theorem base_rel {X : Nat → Nat → Int32} {bs b k c : Nat} {W : Nat → Int32} (hB : TabR X bs W (b + 200 * 2)) (hk : k < 20) (hc : c < 9) : rBase W b k c = X (bs + 3) (9 * k + c) := by
  obtain ⟨b0, b1, b2, b3, b4, b5, b6⟩ := hB
  unfold rBase
  rw [← b0, ← b1]
  cases e1 : bt (X bs 1) k
  · rw [if_neg (by simp), b6 k c hk hc (Or.inl e1)]
  · cases e2 : bt (X bs 0) c
    · rw [if_neg (by simp), b6 k c hk hc (Or.inr e2)]
    · rw [if_pos (by simp), b5 k c hk hc e1 e2]
theorem chg_rel {X : Nat → Nat → Int32} {bs ow b t k c : Nat} {W : Nat → Int32} (hB : TabR X bs W (b + 200 * 2)) (hT : TabR X ow W (b + 200 * t)) (hk : k < 20) (hc : c < 9) : rChg W b t k c = cChg X bs ow k c := by
  unfold rChg cChg
  rw [base_rel hB hk hc]
  obtain ⟨t0, t1, t2, t3, t4, t5, t6⟩ := hT
  rw [← t0, ← t1]
  cases e1 : bt (X ow 1) k
  · rfl
  · cases e2 : bt (X ow 0) c
    · rfl
    · obtain ⟨u1, u2, tt, u3, u4⟩ := t4 c hc e2
      rw [← t5 k c hk hc e1 e2, ← u2, u4, cast_eq _ u3]
