theorem neg_lt {k : Nat} : (-(nI 1) < nI k) = True ∨ 2 ^ 31 ≤ k := by
  rcases Nat.lt_or_ge k (2 ^ 31) with h | h
  · refine Or.inl (eq_true ?_)
    rw [Int32.lt_iff_toInt_lt, nI_toInt h, show (-(nI 1)).toInt = -1 from by decide]
    omega
  · exact Or.inr h
theorem m_lt {k : Nat} (h : k < 2 ^ 31) : (-(nI 1) < nI k) = True := by
  rcases neg_lt (k := k) with q | q
  · exact q
  · omega
theorem m_le {k : Nat} (h : k < 2 ^ 31) : (nI k ≤ -(nI 1)) = False := by
  refine eq_false (fun q => ?_)
  exact absurd q (Int32.not_le.mpr (of_eq_true (m_lt h)))
theorem m_eq {k : Nat} (h : k < 2 ^ 31) : (nI k = -(nI 1)) = False := by
  refine eq_false (fun q => ?_)
  have := of_eq_true (m_lt h)
  rw [q] at this
  exact Int32.lt_irrefl this
theorem m_eq2 {k : Nat} (h : k < 2 ^ 31) : (-(nI 1) = nI k) = False := by
  refine eq_false (fun q => ?_)
  have := of_eq_true (m_lt h)
  rw [q] at this
  exact Int32.lt_irrefl this
theorem nine (k c : Nat) : k * 9 + c = 9 * k + c := by omega
theorem s_numberAt {σ : Sh} {X : Mx} {a k c : Nat} (h : tabOK σ a) (hk : k < 20) (hc : c < 9) : f_X6_numberAt σ X a (nI k) (nI c) = some (X.1 (a + 3) (9 * k + c)) := by
  obtain ⟨h1, h2, h3, h4, h5, h6, h7, h8, h9, h10⟩ := h
  simp (disch := first | assumption | omega) only [f_X6_numberAt, litN, grd_t, grd_T, ldI_t, stI_t, ldA_t, stA_t, lenA_t, n_lt_t, n_lt_f, n_le_t, n_le_f, n_eq_t, n_eq_f, if_true, if_false, nI_add, nI_mul, bt_d, bI_z, bI_o, Option.bind_some, ldR, h1, h4, nine]
theorem s_numberAt_m {σ : Sh} {X : Mx} {a k : Nat} (h : tabOK σ a) (hk : k < 20) : f_X6_numberAt σ X a (nI k) (-(nI 1)) = some (nI 9999) := by
  obtain ⟨h1, h2, h3, h4, h5, h6, h7, h8, h9, h10⟩ := h
  simp (disch := first | assumption | omega) only [f_X6_numberAt, litN, grd_t, grd_T, ldI_t, stI_t, ldA_t, stA_t, lenA_t, n_lt_t, n_lt_f, n_le_t, n_le_f, n_eq_t, n_eq_f, if_true, if_false, nI_add, nI_mul, bt_d, bI_z, bI_o, Option.bind_some, m_lt]
theorem s_putNumber {σ : Sh} {X : Mx} {a k c : Nat} {v : Int32} (h : tabOK σ a) (hk : k < 20) (hc : c < 9) : f_X6_putNumber σ X a (nI k) (nI c) v = some (sI X (a + 3) (9 * k + c) v) := by
  obtain ⟨h1, h2, h3, h4, h5, h6, h7, h8, h9, h10⟩ := h
  simp (disch := first | assumption | omega) only [f_X6_putNumber, litN, grd_t, grd_T, ldI_t, stI_t, ldA_t, stA_t, lenA_t, n_lt_t, n_lt_f, n_le_t, n_le_f, n_eq_t, n_eq_f, if_true, if_false, nI_add, nI_mul, bt_d, bI_z, bI_o, Option.bind_some, ldR, h1, h4, nine]
theorem s_putRow {σ : Sh} {X : Mx} {a k : Nat} (h : tabOK σ a) (hk : k < 20) : f_X6_putRow σ X a (nI k) = some (sI X a 1 (X.1 a 1 ||| ((1 : Int32) <<< (nI k &&& 31)))) := by
  obtain ⟨h1, h2, h3, h4, h5, h6, h7, h8, h9, h10⟩ := h
  simp (disch := first | assumption | omega) only [f_X6_putRow, litN, grd_t, grd_T, ldI_t, stI_t, ldA_t, stA_t, lenA_t, n_lt_t, n_lt_f, n_le_t, n_le_f, n_eq_t, n_eq_f, if_true, if_false, nI_add, nI_mul, bt_d, bI_z, bI_o, Option.bind_some]
theorem s_putColumn {σ : Sh} {X : Mx} {a c : Nat} {n t : Int32} (h : tabOK σ a) (hc : c < 9) : f_X6_putColumn σ X a (nI c) n t = some (sI (sI (sI X a 0 (X.1 a 0 ||| ((1 : Int32) <<< (nI c &&& 31)))) (a + 1) c n) (a + 2) c t) := by
  obtain ⟨h1, h2, h3, h4, h5, h6, h7, h8, h9, h10⟩ := h
  simp (disch := first | assumption | omega) only [f_X6_putColumn, litN, grd_t, grd_T, ldI_t, stI_t, ldA_t, stA_t, lenA_t, n_lt_t, n_lt_f, n_le_t, n_le_f, n_eq_t, n_eq_f, if_true, if_false, nI_add, nI_mul, bt_d, bI_z, bI_o, Option.bind_some, ldR, h1, h2, h3]
theorem s_hasName {σ : Sh} {X : Mx} {a : Nat} {x : Int32} (h : tabOK σ a) : f_X6_hasName σ X a x = some (bI (anyB (fun c => bt (X.1 a 0) c && decide (X.1 (a + 1) c = x)) 9)) := by
  have hT := h
  obtain ⟨h1, h2, h3, h4, h5, h6, h7, h8, h9, h10⟩ := h
  unfold f_X6_hasName
  rw [grd_t h1]
  have := any_loop (F := fun n k => f_X6_hasName_2 σ X a x n (nI k)) (N := 9) (p := fun c => bt (X.1 a 0) c && decide (X.1 (a + 1) c = x)) (e := false) (by
    intro n k hk
    rw [f_X6_hasName_2]
    simp (disch := first | assumption | omega) only [litN, grd_t, grd_T, ldI_t, stI_t, ldA_t, stA_t, lenA_t, n_lt_t, n_lt_f, n_le_t, n_le_f, n_eq_t, n_eq_f, if_true, if_false, nI_add, nI_mul, bt_d, bI_z, bI_o, Option.bind_some, ldR, h1, h2, s_hasColumn hT, inB_n, f_X6_hasName_28]
    cases bt (X.1 a 0) k
    · simp
    · by_cases e : X.1 (a + 1) k = x <;> simp [e]) (by
    intro n
    rw [f_X6_hasName_2]
    simp (disch := first | assumption | omega) only [litN, grd_t, grd_T, ldI_t, stI_t, ldA_t, stA_t, lenA_t, n_lt_t, n_lt_f, n_le_t, n_le_f, n_eq_t, n_eq_f, if_true, if_false, nI_add, nI_mul, bt_d, bI_z, bI_o, Option.bind_some, bI_f]) FU 0 (by omega) (by decide) rfl
  rw [Bool.or_false] at this
  exact this
theorem s_clear6 {σ : Sh} {X : Mx} {a : Nat} (h : tabOK σ a) : f_X6_clear σ X a = some (wF (sI (sI X a 0 (nI 0)) a 1 (nI 0)) (a + 3) (fun j => if j < 180 then nI 9999 else X.1 (a + 3) j)) := by
  obtain ⟨h1, h2, h3, h4, h5, h6, h7, h8, h9, h10⟩ := h
  simp (disch := first | assumption | omega) only [f_X6_clear, litN, grd_t, grd_T, ldI_t, stI_t, ldA_t, stA_t, lenA_t, n_lt_t, n_lt_f, n_le_t, n_le_f, n_eq_t, n_eq_f, if_true, if_false, nI_add, nI_mul, bt_d, bI_z, bI_o, Option.bind_some, ldR, h1, h4, s_fill, h10]
  simp [sI_na]
theorem s_takeRow {σ : Sh} {X : Mx} {a k : Nat} (h : tabOK σ a) (hk : k < 20) (hb : bt (X.1 a 1) k = true) : f_X6_takeRow σ X a (nI k) = some (sI (wF X (a + 3) (fun j => if 9 * k ≤ j ∧ j < 9 * k + 9 then nI 9999 else X.1 (a + 3) j)) a 1 (X.1 a 1 &&& (((1 : Int32) <<< (nI k &&& 31)) ^^^ (-1)))) := by
  have hT := h
  obtain ⟨h1, h2, h3, h4, h5, h6, h7, h8, h9, h10⟩ := h
  unfold f_X6_takeRow
  rw [grd_t h1]
  obtain ⟨n, s, e, i⟩ := up_loop (fun n s c => f_X6_takeRow_2 σ a (nI k) n s (nI c)) 9 (fun c s => s = wF X (a + 3) (fun j => if 9 * k ≤ j ∧ j < 9 * k + c then nI 9999 else X.1 (a + 3) j)) (by
    intro n c s hc hs
    refine ⟨sI s (a + 3) (9 * k + c) (nI 9999), by
      show f_X6_takeRow_2 σ a (nI k) (n + 1) s (nI c) = _
      rw [f_X6_takeRow_2]
      simp (disch := first | assumption | omega) only [litN, grd_t, grd_T, ldI_t, stI_t, ldA_t, stA_t, lenA_t, n_lt_t, n_lt_f, n_le_t, n_le_f, n_eq_t, n_eq_f, if_true, if_false, nI_add, nI_mul, bt_d, bI_z, bI_o, Option.bind_some, s_putNumber hT], ?_⟩
    rw [hs, sI_wF, wF_wF]
    congr 1
    funext j
    rw [wF_at]
    by_cases e : j = 9 * k + c
    · subst e; simp
    · simp only [e, if_false]
      by_cases e2 : 9 * k ≤ j ∧ j < 9 * k + c
      · rw [if_pos e2, if_pos (by omega)]
      · rw [if_neg e2, if_neg (by omega)]) FU 0 X (by omega) (by
        rw [show (fun j => if 9 * k ≤ j ∧ j < 9 * k + 0 then nI 9999 else X.1 (a + 3) j) = X.1 (a + 3) from funext fun j => if_neg (by omega), wF_self]) (by decide)
  have e : f_X6_takeRow_2 σ a (nI k) FU X 0 = f_X6_takeRow_2 σ a (nI k) (n + 1) s (nI 9) := e
  rw [e, i, f_X6_takeRow_2]
  simp (disch := first | assumption | omega) only [litN, grd_t, grd_T, ldI_t, stI_t, ldA_t, stA_t, lenA_t, n_lt_t, n_lt_f, n_le_t, n_le_f, n_eq_t, n_eq_f, if_true, if_false, nI_add, nI_mul, bt_d, bI_z, bI_o, Option.bind_some, s_hasRow hT, inB_n, wF_na (show a ≠ a + 3 by omega), hb]
  rfl
theorem s_takeColumn {σ : Sh} {X : Mx} {a c : Nat} (h : tabOK σ a) (hc : c < 9) (hb : bt (X.1 a 0) c = true) : f_X6_takeColumn σ X a (nI c) = some (sI (wF X (a + 3) (fun j => if j % 9 = c ∧ j < 180 then nI 9999 else X.1 (a + 3) j)) a 0 (X.1 a 0 &&& (((1 : Int32) <<< (nI c &&& 31)) ^^^ (-1)))) := by
  have hT := h
  obtain ⟨h1, h2, h3, h4, h5, h6, h7, h8, h9, h10⟩ := h
  unfold f_X6_takeColumn
  rw [grd_t h1]
  obtain ⟨n, s, e, i⟩ := up_loop (fun n s k => f_X6_takeColumn_2 σ a (nI c) n s (nI k)) 20 (fun k s => s = wF X (a + 3) (fun j => if j % 9 = c ∧ j < 9 * k then nI 9999 else X.1 (a + 3) j)) (by
    intro n k s hk hs
    refine ⟨sI s (a + 3) (9 * k + c) (nI 9999), by
      show f_X6_takeColumn_2 σ a (nI c) (n + 1) s (nI k) = _
      rw [f_X6_takeColumn_2]
      simp (disch := first | assumption | omega) only [litN, grd_t, grd_T, ldI_t, stI_t, ldA_t, stA_t, lenA_t, n_lt_t, n_lt_f, n_le_t, n_le_f, n_eq_t, n_eq_f, if_true, if_false, nI_add, nI_mul, bt_d, bI_z, bI_o, Option.bind_some, s_putNumber hT], ?_⟩
    rw [hs, sI_wF, wF_wF]
    congr 1
    funext j
    rw [wF_at]
    by_cases e : j = 9 * k + c
    · rw [if_pos e, if_pos (by omega)]
    · simp only [e, if_false]
      by_cases e2 : j % 9 = c ∧ j < 9 * k
      · rw [if_pos e2, if_pos (by omega)]
      · rw [if_neg e2, if_neg (by omega)]) FU 0 X (by omega) (by
        rw [show (fun j => if j % 9 = c ∧ j < 9 * 0 then nI 9999 else X.1 (a + 3) j) = X.1 (a + 3) from funext fun j => if_neg (by omega), wF_self]) (by decide)
  have e : f_X6_takeColumn_2 σ a (nI c) FU X 0 = f_X6_takeColumn_2 σ a (nI c) (n + 1) s (nI 20) := e
  rw [e, i, f_X6_takeColumn_2]
  simp (disch := first | assumption | omega) only [litN, grd_t, grd_T, ldI_t, stI_t, ldA_t, stA_t, lenA_t, n_lt_t, n_lt_f, n_le_t, n_le_f, n_eq_t, n_eq_f, if_true, if_false, nI_add, nI_mul, bt_d, bI_z, bI_o, Option.bind_some, s_hasColumn hT, inB_n, wF_na (show a ≠ a + 3 by omega), hb]
  rfl
/-- a Table's copy: what it has afterwards, and that nothing else changed -/
theorem s_copy6 {σ : Sh} {X : Mx} {a b : Nat} (h : tabOK σ a) (h' : tabOK σ b) (hd : a + 3 < b ∨ b + 3 < a) : ∃ Z : Mx, f_X6_copyFrom σ X a b = some Z ∧ Z.2 = X.2 ∧ (∀ q, q < a ∨ a + 3 < q → Z.1 q = X.1 q) ∧ Z.1 a 0 = X.1 b 0 ∧ Z.1 a 1 = X.1 b 1 ∧ (∀ j, j < 9 → Z.1 (a + 1) j = X.1 (b + 1) j) ∧ (∀ j, j < 9 → Z.1 (a + 2) j = X.1 (b + 2) j) ∧ (∀ j, j < 180 → Z.1 (a + 3) j = X.1 (b + 3) j) := by
  obtain ⟨h1, h2, h3, h4, h5, h6, h7, h8, h9, h10⟩ := h
  obtain ⟨k1, k2, k3, k4, k5, k6, k7, k8, k9, k10⟩ := h'
  refine ⟨wF (wF (wF (sI (sI X a 0 (X.1 b 0)) a 1 (X.1 b 1)) (a + 1) (va_cpy (X.1 (b + 1)) (X.1 (a + 1)) 0 0 9)) (a + 2) (va_cpy (X.1 (b + 2)) (X.1 (a + 2)) 0 0 9)) (a + 3) (va_cpy (X.1 (b + 3)) (X.1 (a + 3)) 0 0 180), ?_, rfl, ?_, ?_, ?_, ?_, ?_, ?_⟩
  · have ne : ∀ i, i < 4 → ∀ j, j < 4 → b + i ≠ a + j := fun i hi j hj => by omega
    have n1 : b ≠ a := by omega
    simp (disch := first | assumption | omega) only [f_X6_copyFrom, litN, grd_t, grd_T, ldI_t, stI_t, ldA_t, stA_t, lenA_t, n_lt_t, n_lt_f, n_le_t, n_le_f, n_eq_t, n_eq_f, if_true, if_false, nI_add, nI_mul, bt_d, bI_z, bI_o, Option.bind_some, ldR, h1, h2, h3, h4, k1, k2, k3, k4, cpA_t, cpX_wF, sI_na]
    have f : ∀ (q : Nat) (v w : Int32), q ≠ a → (sI (sI X a 0 v) a 1 w).1 q = X.1 q := fun q v w h => funext fun j => by rw [sI_na h, sI_na h]
    rw [f (b + 1) _ _ (by omega), f (a + 1) _ _ (by omega), wF_fn (show b + 2 ≠ a + 1 by omega), wF_fn (show a + 2 ≠ a + 1 by omega), f (b + 2) _ _ (by omega), f (a + 2) _ _ (by omega), wF_fn (show b + 3 ≠ a + 2 by omega), wF_fn (show b + 3 ≠ a + 1 by omega), wF_fn (show a + 3 ≠ a + 2 by omega), wF_fn (show a + 3 ≠ a + 1 by omega), f (b + 3) _ _ (by omega), f (a + 3) _ _ (by omega)]
  · intro q hq
    funext j
    rw [wF_na (by omega), wF_na (by omega), wF_na (by omega), sI_na (by omega), sI_na (by omega)]
  · rw [wF_na (by omega), wF_na (by omega), wF_na (by omega), sI_nk (by omega), sI_eq]
  · rw [wF_na (by omega), wF_na (by omega), wF_na (by omega), sI_eq]
  · intro j hj
    rw [wF_na (by omega), wF_na (by omega), wF_at]; simp [va_cpy, hj]
  · intro j hj
    rw [wF_na (by omega), wF_at]; simp [va_cpy, hj]
  · intro j hj
    rw [wF_at]; simp [va_cpy, hj]
