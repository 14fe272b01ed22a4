/-! ===== which choice, for any numbers ===== -/
theorem w_in {x : Int32} {n : Nat} : f_X1_within x (nI (n + 1)) = bI (inR n x) := by
  unfold f_X1_within
  simp only [litM]
  by_cases h0 : x < nI 0
  · rw [if_pos h0, show inR n x = false from decide_eq_false (fun h => h.1 h0), bI_f]
  · rw [if_neg h0]
    by_cases h1 : nI (n + 1) ≤ x
    · rw [if_pos h1, show inR n x = false from decide_eq_false (fun h => h.2 h1), bI_f]
    · rw [if_neg h1, show inR n x = true from decide_eq_true ⟨h0, h1⟩, bI_t]
theorem le_0 {x : Int32} (h : ¬ x < nI 0) : nI 0 ≤ x := Int32.not_lt.mp h
theorem id_any (x y z : Int32) : (f_X1_idOf x y z = -(nI 1) ∧ f_X10_choiceAt x y z = -(nI 1)) ∨ ∃ id, id < 316 ∧ idR x y z id := by
  cases hx : inR 6 x with
  | false =>
    have hn : ∀ k, k < 7 → ¬ x = nI k := fun k hk e => by rw [e, inR_t (by omega) (by omega)] at hx; cases hx
    refine Or.inl ⟨?_, ?_⟩
    · unfold f_X1_idOf
      simp only [litM]
      rw [if_neg (hn 0 (by omega)), if_neg (hn 1 (by omega)), if_neg (hn 2 (by omega)), if_neg (hn 3 (by omega)), if_neg (hn 4 (by omega)), if_neg (hn 5 (by omega)), if_neg (hn 6 (by omega))]
    · unfold f_X10_choiceAt
      simp only [litM]
      rw [s_win (by omega), hx, if_pos bI_f]
  | true =>
    obtain ⟨k, hk, rfl⟩ := inR_ex (by omega) hx
    have hw : (f_X10_within (nI k) (nI 0) (nI 6) = nI 0) = False := by rw [s_win (by omega), hx]; exact eq_false (by decide)
    have o1 : (bI true = nI 0) = False := eq_false (by decide)
    have o2 : (bI false = nI 0) = True := eq_true bI_f
    by_cases hk4 : k < 4
    · have ei : f_X1_idOf (nI k) y z = if f_X1_within y (nI (8 + 1)) = nI 0 then -(nI 1) else if z = nI 0 then nI k * nI 9 + y else -(nI 1) := by
        rcases (show k = 0 ∨ k = 1 ∨ k = 2 ∨ k = 3 by omega) with rfl | rfl | rfl | rfl <;> (unfold f_X1_idOf; simp (disch := first | assumption | omega) only [litM, n_eq_t, n_eq_f, if_true, if_false])
      have ec : f_X10_choiceAt (nI k) y z = if y < nI 0 then -(nI 1) else if nI 0 ≤ z then (if nI 9 ≤ y then -(nI 1) else if z = nI 0 then nI 9 * nI k + y else -(nI 1)) else -(nI 1) := by
        unfold f_X10_choiceAt
        simp (disch := first | assumption | omega) only [litM, hw, n_le_f, if_false]
      rw [ei, ec, w_in]
      cases hy : inR 8 y with
      | false =>
        left
        rcases inR_n hy with h0 | ⟨h0, h1⟩
        · simp only [o2, h0, if_true, and_self]
        · simp only [o2, h0, if_true, if_false, show (nI 9 ≤ y) = True from eq_true h1, ite_self, and_self]
      | true =>
        obtain ⟨c, hc, rfl⟩ := inR_ex (by omega) hy
        by_cases hz : z = nI 0
        · subst hz
          exact Or.inr ⟨9 * k + c, by omega, id_col k hk4 c (by omega)⟩
        · left
          simp only [o1, hz, if_false, ite_self, and_self]
    · rcases (show k = 4 ∨ k = 5 ∨ k = 6 by omega) with rfl | rfl | rfl
      · have ei : f_X1_idOf (nI 4) y z = if f_X1_within y (nI (19 + 1)) = nI 0 then -(nI 1) else if z = nI 0 then nI 36 + y else -(nI 1) := by
          unfold f_X1_idOf; simp (disch := first | assumption | omega) only [litM, n_eq_t, n_eq_f, if_true, if_false]
        have ec : f_X10_choiceAt (nI 4) y z = if y < nI 0 then -(nI 1) else if nI 0 ≤ z then (if nI 20 ≤ y then -(nI 1) else if z = nI 0 then nI 36 + y else -(nI 1)) else -(nI 1) := by
          unfold f_X10_choiceAt
          simp (disch := first | assumption | omega) only [litM, hw, n_le_t, n_eq_t, if_true, if_false]
        rw [ei, ec, w_in]
        cases hy : inR 19 y with
        | false =>
          left
          rcases inR_n hy with h0 | ⟨h0, h1⟩
          · simp only [o2, h0, if_true, and_self]
          · simp only [o2, h0, if_true, if_false, show (nI 20 ≤ y) = True from eq_true h1, ite_self, and_self]
        | true =>
          obtain ⟨c, hc, rfl⟩ := inR_ex (by omega) hy
          by_cases hz : z = nI 0
          · subst hz
            exact Or.inr ⟨36 + c, by omega, id_row c (by omega)⟩
          · left
            simp only [o1, hz, if_false, ite_self, and_self]
      · have ei : f_X1_idOf (nI 5) y z = if f_X1_within y (nI (19 + 1)) = nI 0 then -(nI 1) else if f_X1_within z (nI (8 + 1)) = nI 0 then -(nI 1) else nI 56 + y * nI 9 + z := by
          unfold f_X1_idOf; simp (disch := first | assumption | omega) only [litM, n_eq_t, n_eq_f, if_true, if_false]
        have ec : f_X10_choiceAt (nI 5) y z = if y < nI 0 then -(nI 1) else if nI 0 ≤ z then (if nI 20 ≤ y then -(nI 1) else if nI 9 ≤ z then -(nI 1) else nI 56 + nI 9 * y + z) else -(nI 1) := by
          unfold f_X10_choiceAt
          simp (disch := first | assumption | omega) only [litM, hw, n_le_t, n_eq_t, n_eq_f, if_true, if_false]
        rw [ei, ec, w_in, w_in]
        cases hy : inR 19 y with
        | false =>
          left
          rcases inR_n hy with h0 | ⟨h0, h1⟩
          · simp only [o2, h0, if_true, and_self]
          · simp only [o2, h0, if_true, if_false, show (nI 20 ≤ y) = True from eq_true h1, ite_self, and_self]
        | true =>
          obtain ⟨c, hc, rfl⟩ := inR_ex (by omega) hy
          cases hz : inR 8 z with
          | false =>
            left
            rcases inR_n hz with h0 | ⟨h0, h1⟩
            · simp only [o1, o2, if_true, if_false, show (nI 0 ≤ z) = False from eq_false (Int32.not_le.mpr h0), ite_self, and_self]
            · simp only [o1, o2, if_true, if_false, show (nI 9 ≤ z) = True from eq_true h1, ite_self, and_self]
          | true =>
            obtain ⟨q, hq, rfl⟩ := inR_ex (by omega) hz
            exact Or.inr ⟨56 + (9 * c + q), by omega, id_cell c (by omega) q (by omega)⟩
      · have ei : f_X1_idOf (nI 6) y z = if f_X1_within y (nI (3 + 1)) = nI 0 then -(nI 1) else if f_X1_within z (nI (19 + 1)) = nI 0 then -(nI 1) else nI 236 + y * nI 20 + z := by
          unfold f_X1_idOf; simp (disch := first | assumption | omega) only [litM, n_eq_t, n_eq_f, if_true, if_false]
        have ec : f_X10_choiceAt (nI 6) y z = if y < nI 0 then -(nI 1) else if nI 0 ≤ z then (if nI 4 ≤ y then -(nI 1) else if nI 20 ≤ z then -(nI 1) else nI 236 + nI 20 * y + z) else -(nI 1) := by
          unfold f_X10_choiceAt
          simp (disch := first | assumption | omega) only [litM, hw, n_le_t, n_eq_t, n_eq_f, if_true, if_false]
        rw [ei, ec, w_in, w_in]
        cases hy : inR 3 y with
        | false =>
          left
          rcases inR_n hy with h0 | ⟨h0, h1⟩
          · simp only [o2, h0, if_true, and_self]
          · simp only [o2, h0, if_true, if_false, show (nI 4 ≤ y) = True from eq_true h1, ite_self, and_self]
        | true =>
          obtain ⟨c, hc, rfl⟩ := inR_ex (by omega) hy
          cases hz : inR 19 z with
          | false =>
            left
            rcases inR_n hz with h0 | ⟨h0, h1⟩
            · simp only [o1, o2, if_true, if_false, show (nI 0 ≤ z) = False from eq_false (Int32.not_le.mpr h0), ite_self, and_self]
            · simp only [o1, o2, if_true, if_false, show (nI 20 ≤ z) = True from eq_true h1, ite_self, and_self]
          | true =>
            obtain ⟨q, hq, rfl⟩ := inR_ex (by omega) hz
            exact Or.inr ⟨236 + (20 * c + q), by omega, id_dem c (by omega) q (by omega)⟩
