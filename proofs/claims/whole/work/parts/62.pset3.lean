/-! ===== settle ===== -/
theorem id_back : ∀ i, i < 316 → f_X1_idOf (f_X1_kindOf (nI i)) (f_X1_firstOf (nI i)) (f_X1_secondOf (nI i)) = nI i := by decide +kernel
theorem run_rel {σ : Sh} {X : Mx} {a L R : Nat} {W : Nat → Int32} (hs : IVs σ a L R) (hS : StR X.1 (a + 1) L R W 0) (h10 : X.1 a 10 = nI 0) : ∃ X1, f_X9_freshMerge σ X a = some (a + 18, X1) ∧ X1.1 a 10 = nI 1 ∧ (∀ j, j ≠ 10 → X1.1 a j = X.1 a j) ∧ (∀ q, q ≠ a → (q < a + 18 ∨ a + 27 < q) → X1.1 q = X.1 q) ∧ ∀ (τ : Sh) (Y : Mx), mdOK τ (a + 108) → (∀ j, j < 931 → Y.1 (a + 111) j = W j) → ∃ Y1 n, f_X10_merges τ Y (a + 108) (nI 0) = some Y1 ∧ FrY Y Y1 (a + 108) ∧ n ≤ 299 ∧ MR n (X.1 (a + 17)) (X.1 L 0) (X.1 R 0) X1.1 (a + 18) Y1.1 (a + 108) := by
  obtain ⟨⟨⟨o0, o1, o2, o3, o4, o5, o6, o7, o8, o9, o10⟩, oM, oT, oA, oS, oQ, oI, oA2, oS2, oR, oD, oO⟩, hst, hsl, hsh⟩ := id hs
  have hrun : ∀ (τ : Sh) (Y : Mx), mdOK τ (a + 108) → (∀ j, j < 931 → Y.1 (a + 111) j = W j) → ∃ X1 Y1 n, f_X2_run σ X (a + 18) (a + 1) = some X1 ∧ f_X10_merges τ Y (a + 108) (nI 0) = some Y1 ∧ n ≤ 299 ∧ MI 180 (fun _ => True) n (X.1 (a + 17)) (X.1 L 0) (X.1 R 0) X X1 (a + 18) Y Y1 (a + 108) := by
    intro τ Y hm hY
    exact merge_rel (b := 0) oM hst hm (by omega) (Or.inl (by omega)) (hS.fr hst.lr (fun _ _ _ => rfl) (fun j hj => by rw [Nat.zero_add]; exact hY j hj))
  obtain ⟨X1, Y1, n, e1, -, -, hMI⟩ := hrun σ (wF X (a + 111) W) oD (fun j _ => wF_at)
  have hfr := hMI.1
  refine ⟨sI X1 a 10 (nI 1), ?_, sI_eq, fun j hj => by rw [sI_nk hj, hfr.2 a (by omega)], fun q q1 q2 => by rw [sI_ne q1]; exact hfr.2 q (by omega), fun τ Y hm hY => ?_⟩
  · have hx : X1.1 a 10 = X.1 a 10 := by rw [hfr.2 a (by omega)]
    simp (disch := first | assumption | omega) only [f_X9_freshMerge, litM, grd_t, grd_T, ldI_t, stI_t, ldA_t, stA_t, lenA_t, n_lt_t, n_lt_f, n_le_t, n_le_f, n_eq_t, n_eq_f, if_true, if_false, nI_add, nI_mul, bt_d, bI_z, bI_o, Option.bind_some, Bool.true_eq_false, Bool.false_eq_true, ldR, eq_self, if_true, Option.bind_some, o0, o1, o2, h10, e1]
  · obtain ⟨X1', Y1, n, k1, k2, k3, k4⟩ := hrun τ Y hm hY
    rw [e1] at k1
    cases k1
    refine ⟨Y1, n, k2, k4.2.1, k3, ?_⟩
    have k5 := k4.2.2
    unfold MR
    simp (disch := first | assumption | omega) only [sI_na, sI_ne]
    exact k5
theorem open_is {σ : Sh} {X : Mx} {g n ix : Nat} (hg : mgOK σ g) (hn : n ≤ 299) (h2 : X.1 g 2 = nI n) : f_X2_isOpen σ X g (nI ix) = some (bI (anyB (fun j => decide (X.1 (g + 6) j = nI ix)) n)) := by
  have e := any_loop (F := fun n k => f_X2_isOpen_2 σ X g (nI ix) n (nI k)) (N := n) (p := fun j => decide (X.1 (g + 6) j = nI ix)) (e := false) (by
    intro m k hk
    show f_X2_isOpen_2 σ X g (nI ix) (m + 1) (nI k) = _
    rw [f_X2_isOpen_2]
    obtain ⟨g0, g1, g2, g3, g4, g5, g6, gT, k5, l5, k6, l6, k7, l7, k8, l8, k9, l9⟩ := hg
    simp (disch := first | assumption | omega) only [litM, grd_t, grd_T, ldI_t, stI_t, ldA_t, stA_t, lenA_t, n_lt_t, n_lt_f, n_le_t, n_le_f, n_eq_t, n_eq_f, if_true, if_false, nI_add, nI_mul, bt_d, bI_z, bI_o, Option.bind_some, Bool.true_eq_false, Bool.false_eq_true, ldR, eq_self, if_true, Option.bind_some, g0, g3, h2, decide_eq_true_eq]) (by
    intro m
    show f_X2_isOpen_2 σ X g (nI ix) (m + 1) (nI n) = _
    rw [f_X2_isOpen_2]
    obtain ⟨g0, g1, g2, g3, g4, g5, g6, gT, k5, l5, k6, l6, k7, l7, k8, l8, k9, l9⟩ := hg
    simp (disch := first | assumption | omega) only [litM, grd_t, grd_T, ldI_t, stI_t, ldA_t, stA_t, lenA_t, n_lt_t, n_lt_f, n_le_t, n_le_f, n_eq_t, n_eq_f, if_true, if_false, nI_add, nI_mul, bt_d, bI_z, bI_o, Option.bind_some, Bool.true_eq_false, Bool.false_eq_true, ldR, eq_self, if_true, Option.bind_some, g0, h2]
    rfl) FU 0 (by omega) (by rw [FU_40000]; omega) rfl
  unfold f_X2_isOpen
  rw [grd_t hg.1]
  refine Eq.trans (show _ = f_X2_isOpen_2 σ X g (nI ix) FU (nI 0) from rfl) (Eq.trans e ?_)
  rw [Bool.or_false]
theorem conf_is {τ : Sh} {Y : Mx} {m n : Nat} {x1 x2 x3 : Int32} (hm : mdOK τ m) (hn : n ≤ 299) (h2 : Y.1 m 22 = nI n) : f_X10_isConflict τ Y m x1 x2 x3 = some (bI (anyB (fun j => decide (Y.1 (m + 10) (5 * j) = x1 ∧ Y.1 (m + 10) (5 * j + 1) = x2 ∧ Y.1 (m + 10) (5 * j + 2) = x3)) n)) := by
  have e := any_loop (F := fun n k => f_X10_isConflict_3 τ Y m x1 x2 x3 n (nI k)) (N := n) (p := fun j => decide (Y.1 (m + 10) (5 * j) = x1 ∧ Y.1 (m + 10) (5 * j + 1) = x2 ∧ Y.1 (m + 10) (5 * j + 2) = x3)) (e := false) (by
    intro i k hk
    show f_X10_isConflict_3 τ Y m x1 x2 x3 (i + 1) (nI k) = (if decide _ = true then _ else f_X10_isConflict_3 τ Y m x1 x2 x3 i (nI (k + 1)))
    rw [f_X10_isConflict_3]
    obtain ⟨m0, m1, m2, m3, m4, m5, m6, m7, m8, m9, m10, m11, m12, m13, m14, m15, m16, m17, mq1, mq2, mq3, mq4, mq5, mq6, mq7, mq8, mq9, mq10, mq11, mq12, mq13, mq14, mq15, mq16, mq17, mn1, mn2, mn3, mn4, mn5, mn6, mn7, mn8, mn9, mn10, mn11, mn12, mn13, mn14, mn15, mn16, mn17⟩ := hm
    by_cases q1 : Y.1 (m + 10) (5 * k) = x1
    · by_cases q2 : Y.1 (m + 10) (5 * k + 1) = x2
      · by_cases q3 : Y.1 (m + 10) (5 * k + 2) = x3
        · simp (disch := first | assumption | omega) only [litM, grd_t, grd_T, ldI_t, stI_t, ldA_t, stA_t, lenA_t, n_lt_t, n_lt_f, n_le_t, n_le_f, n_eq_t, n_eq_f, if_true, if_false, nI_add, nI_mul, bt_d, bI_z, bI_o, Option.bind_some, Bool.true_eq_false, Bool.false_eq_true, ldR, eq_self, if_true, Option.bind_some, m0, m10, h2, f_X10_isConflict_57, q1, q2, q3, and_self, decide_true]
        · simp (disch := first | assumption | omega) only [litM, grd_t, grd_T, ldI_t, stI_t, ldA_t, stA_t, lenA_t, n_lt_t, n_lt_f, n_le_t, n_le_f, n_eq_t, n_eq_f, if_true, if_false, nI_add, nI_mul, bt_d, bI_z, bI_o, Option.bind_some, Bool.true_eq_false, Bool.false_eq_true, ldR, eq_self, if_true, Option.bind_some, m0, m10, h2, f_X10_isConflict_57, q1, q2, q3, and_false, decide_false]
      · simp (disch := first | assumption | omega) only [litM, grd_t, grd_T, ldI_t, stI_t, ldA_t, stA_t, lenA_t, n_lt_t, n_lt_f, n_le_t, n_le_f, n_eq_t, n_eq_f, if_true, if_false, nI_add, nI_mul, bt_d, bI_z, bI_o, Option.bind_some, Bool.true_eq_false, Bool.false_eq_true, ldR, eq_self, if_true, Option.bind_some, m0, m10, h2, f_X10_isConflict_57, q1, q2, false_and, and_false, decide_false]
    · simp (disch := first | assumption | omega) only [litM, grd_t, grd_T, ldI_t, stI_t, ldA_t, stA_t, lenA_t, n_lt_t, n_lt_f, n_le_t, n_le_f, n_eq_t, n_eq_f, if_true, if_false, nI_add, nI_mul, bt_d, bI_z, bI_o, Option.bind_some, Bool.true_eq_false, Bool.false_eq_true, ldR, eq_self, if_true, Option.bind_some, m0, m10, h2, f_X10_isConflict_57, q1, false_and, decide_false]) (by
    intro i
    show f_X10_isConflict_3 τ Y m x1 x2 x3 (i + 1) (nI n) = _
    rw [f_X10_isConflict_3]
    obtain ⟨m0, m1, m2, m3, m4, m5, m6, m7, m8, m9, m10, m11, m12, m13, m14, m15, m16, m17, mq1, mq2, mq3, mq4, mq5, mq6, mq7, mq8, mq9, mq10, mq11, mq12, mq13, mq14, mq15, mq16, mq17, mn1, mn2, mn3, mn4, mn5, mn6, mn7, mn8, mn9, mn10, mn11, mn12, mn13, mn14, mn15, mn16, mn17⟩ := hm
    simp (disch := first | assumption | omega) only [litM, grd_t, grd_T, ldI_t, stI_t, ldA_t, stA_t, lenA_t, n_lt_t, n_lt_f, n_le_t, n_le_f, n_eq_t, n_eq_f, if_true, if_false, nI_add, nI_mul, bt_d, bI_z, bI_o, Option.bind_some, Bool.true_eq_false, Bool.false_eq_true, ldR, eq_self, if_true, Option.bind_some, m0, h2]
    rfl) FU 0 (by omega) (by rw [FU_40000]; omega) rfl
  unfold f_X10_isConflict
  rw [grd_t hm.1]
  refine Eq.trans (show _ = f_X10_isConflict_3 τ Y m x1 x2 x3 FU (nI 0) from rfl) (Eq.trans e ?_)
  rw [Bool.or_false]
theorem conf_no {n : Nat} {z z' : Int32} {i l r q : Nat → Int32} {x1 x2 x3 : Int32} (h : CF n z i l r z' q) (hx : f_X1_idOf x1 x2 x3 = -(nI 1)) : anyB (fun j => decide (q (5 * j) = x1 ∧ q (5 * j + 1) = x2 ∧ q (5 * j + 2) = x3)) n = false := by
  refine anyB_f (fun k hk => decide_eq_false (fun ⟨q1, q2, q3⟩ => ?_))
  obtain ⟨j, hj, -, e1, e2, e3, -⟩ := h.2.2 k hk
  have hj1 := hj.1
  have := id_back j hj1
  rw [← e1, ← e2, ← e3, q1, q2, q3, hx] at this
  have h1 := congrArg Int32.toInt this
  rw [nI_toInt (by omega)] at h1
  have h2 : (-(nI 1)).toInt = -1 := by decide
  omega
theorem conf_eq {n ix : Nat} {z z' : Int32} {i l r q : Nat → Int32} {x1 x2 x3 : Int32} (h : CF n z i l r z' q) (hx : idR x1 x2 x3 ix) : anyB (fun j => decide (q (5 * j) = x1 ∧ q (5 * j + 1) = x2 ∧ q (5 * j + 2) = x3)) n = anyB (fun j => decide (i j = nI ix)) n := by
  refine anyB_congr (fun k hk => ?_)
  obtain ⟨j, hj, e0, e1, e2, e3, -⟩ := h.2.2 k hk
  refine decide_eq_decide.mpr ⟨fun ⟨q1, q2, q3⟩ => ?_, fun e => ?_⟩
  · have := id_back j hj.1
    rw [← e1, ← e2, ← e3, q1, q2, q3, hx.1] at this
    rw [e0, this]
  · rw [e1, e2, e3, ← e0, e]
    exact ⟨hx.2.2.1, hx.2.2.2.1, hx.2.2.2.2⟩
theorem chs_of : ∀ i, i < 316 → ∃ q, (q = 2 ∨ q = 3) ∧ f_X1_choicesOf (nI i) = nI q ∧ f_X10_choicesOf (f_X1_kindOf (nI i)) = nI q := by
  intro i hi
  have h : ∀ i, i < 316 → (f_X1_choicesOf (nI i) = nI 2 ∧ f_X10_choicesOf (f_X1_kindOf (nI i)) = nI 2) ∨ (f_X1_choicesOf (nI i) = nI 3 ∧ f_X10_choicesOf (f_X1_kindOf (nI i)) = nI 3) := by decide +kernel
  rcases h i hi with ⟨h1, h2⟩ | ⟨h1, h2⟩
  · exact ⟨2, Or.inl rfl, h1, h2⟩
  · exact ⟨3, Or.inr rfl, h1, h2⟩
