/-! ===== see ===== -/
theorem holds0 {x : Int32} : f_X8_holds (nI 0) x = bI (decide (x = nI 9999 ∨ f_X10_within x (-(nI 999)) (nI 999) = nI 1)) := by
  unfold f_X8_holds f_X10_within
  simp only [litM]
  have o1 : (nI 0 = nI 1) = False := eq_false (by decide)
  by_cases h1 : x = nI 9999
  · simp only [h1, if_true, true_or, decide_true, bI_t]
  · by_cases h2 : x < -(nI 999)
    · simp only [h1, h2, if_true, if_false, false_or, o1, decide_false, bI_f]
    · by_cases h3 : x ≤ nI 999
      · simp only [h1, h2, h3, if_true, if_false, false_or, show (nI 999 < x) = False from eq_false (Int32.not_lt.mpr h3), decide_true, bI_t]
      · simp only [h1, h2, h3, if_true, if_false, false_or, show (nI 999 < x) = True from eq_true (Int32.not_le.mp h3), o1, decide_false, bI_f]
theorem a_see {σ : Sh} {X : Mx} {a L R : Nat} {x y w : Int32} (h : IV σ X a L R) : Pl σ a (f_X9_see σ X a x y w) (fun Y => f_X10_see σ Y (a + 108) x y w) := by
  have hs := h.1
  have hD := hs.md
  have m0 := hD.1
  obtain ⟨⟨⟨o0, o1, o2, o3, o4, o5, o6, o7, o8, o9, o10⟩, oM, oT, oA, ⟨n0, n1, n2, n3, n4, n5, n6, n7, n8, n9⟩, oQ, oI, oA2, oS2, ⟨oR, oRn⟩, oD, oO⟩, hst, hsl, hsh⟩ := id hs
  obtain ⟨k, hk, k1, k2, k3⟩ := h.2.1.2.2.2.1
  have m32 : ∀ Y : Mx, Y.1 (a + 108) 32 = X.1 (a + 108) 32 → Y.1 (a + 108) 32 = nI k := fun Y hY => hY.trans k2
  -- a refusal
  have no : f_X4_note σ X (a + 49) x y w = some (nI 0, X) → (∀ Y : Mx, Y.1 (a + 108) 32 = nI k → f_X10_see σ Y (a + 108) x y w = f_X10_see_54 σ (a + 108) (sI Y (a + 108) 0 (nI 0))) → Pl σ a (f_X9_see σ X a x y w) (fun Y => f_X10_see σ Y (a + 108) x y w) := by
    intro h1 h2
    refine ⟨-(nI 1), sI X (a + 107) 2 (X.1 (a + 107) 2 + nI 1), _, L, R, ?_, ?_, ref_at (ix := 2) h (FrQ.fld (k := 0) (v := nI 0) (by omega))⟩
    · unfold f_X9_see
      simp only [litM]
      rw [grd_t o0]
      simp only [ldR, o0, o5, o10, if_true, Option.bind_some]
      rw [h1, bnd2_k, if_pos rfl]
      simp only [ldA_t oR (show 2 < _ by rw [oRn]; omega) (show shN σ (a + 107) < 2 ^ 31 by rw [oRn]; omega), stA_t oR (show 2 < _ by rw [oRn]; omega) (show shN σ (a + 107) < 2 ^ 31 by rw [oRn]; omega)]
    · refine Eq.trans (h2 _ (by rw [sI_na (by omega)]; exact k2)) ?_
      unfold f_X10_see_54
      simp only [litM]
      rw [m_refuses hD (by omega), bnd2_k]
  have hn : f_X4_note σ X (a + 49) x y w = if nI 8 ≤ nI k then some (nI 0, X) else if f_X1_within x (nI (19 + 1)) = nI 0 then some (nI 0, X) else if f_X1_within y (nI (8 + 1)) = nI 0 then some (nI 0, X) else if f_X8_holds (nI 0) w = nI 0 then some (nI 0, X) else stA σ X 10 (a + 49 + 1) (nI k) x fun X4 => stA σ X4 10 (a + 49 + 2) (nI k) y fun X7 => stA σ X7 10 (a + 49 + 3) (nI k) w fun X10 => stI σ X10 3 (a + 49) 0 (nI k + nI 1) fun X12 => some (nI 1, X12) := by
    unfold f_X4_note f_X1_within
    simp only [litM]
    rw [grd_t n0, ldI_t n0, k1]
    have o1 : (nI 1 = nI 0) = False := eq_false (by decide)
    by_cases h8 : nI 8 ≤ nI k
    · rw [if_pos h8, if_pos h8]
    · have hk9 : k < 8 := by rw [n_le (by omega) (by omega)] at h8; omega
      rw [if_neg h8, if_neg h8]
      by_cases a1 : x < nI 0
      · simp only [a1, if_true]
      · by_cases a2 : nI 20 ≤ x
        · simp only [a1, a2, if_true, if_false, ite_self]
        · by_cases a3 : y < nI 0
          · simp only [a1, a2, a3, o1, if_true, if_false, ite_self]
          · by_cases a4 : nI 9 ≤ y
            · simp only [a1, a2, a3, a4, o1, if_true, if_false, ite_self]
            · simp only [a1, a2, a3, a4, o1, if_false, ldR, n0, n1, n2, n3, if_true, Option.bind_some]
              by_cases a5 : f_X8_holds (nI 0) w = nI 0
              · rw [if_pos a5, if_pos a5]
              · rw [if_neg a5, if_neg a5, ldI_t n0, k1, stA_t n4 (by omega) (by omega), stA_t n4 (by omega) (by omega), ldI_t n0, sI_na (by omega), k1, stA_t n6 (by omega) (by omega), stA_t n6 (by omega) (by omega), ldI_t n0, sI_na (by omega), sI_na (by omega), k1, stA_t n8 (by omega) (by omega), stA_t n8 (by omega) (by omega), ldI_t n0, sI_na (by omega), sI_na (by omega), sI_na (by omega), k1]
  by_cases hk8 : k = 8
  · refine no ?_ ?_
    · rw [hn, if_pos (by rw [n_le (by omega) (by omega)]; omega)]
    · intro Y hY
      unfold f_X10_see
      simp only [litM]
      rw [grd_t m0, stI_t m0, ldI_t m0, sI_nk (by omega), hY, hk8, if_pos rfl]
  have hk9 : k < 8 := by omega
  have hkn : ¬ nI 8 ≤ nI k := by rw [n_le (by omega) (by omega)]; omega
  have hke : ¬ nI k = nI 8 := by rw [n_eq (by omega) (by omega)]; omega
  have hsee : ∀ Y : Mx, Y.1 (a + 108) 32 = nI k → f_X10_see σ Y (a + 108) x y w = (if f_X10_within x (nI 0) (nI 19) = nI 0 then f_X10_see_54 σ (a + 108) (sI Y (a + 108) 0 (nI 0)) else (if f_X10_within y (nI 0) (nI 8) = nI 0 then f_X10_see_54 σ (a + 108) (sI Y (a + 108) 0 (nI 0)) else (if w = nI 9999 then f_X10_see_60 σ (a + 108) x y w (sI Y (a + 108) 0 (nI 0)) else (if f_X10_within w (-(nI 999)) (nI 999) = nI 0 then f_X10_see_54 σ (a + 108) (sI Y (a + 108) 0 (nI 0)) else f_X10_see_60 σ (a + 108) x y w (sI Y (a + 108) 0 (nI 0)))))) := by
    intro Y hY
    unfold f_X10_see
    simp only [litM]
    rw [grd_t m0, stI_t m0, ldI_t m0, sI_nk (by omega), hY, if_neg hke]
  have t1 : ¬ bI true = nI 0 := by decide
  cases hx : inR 19 x with
  | false =>
    refine no ?_ (fun Y hY => ?_)
    · rw [hn, if_neg hkn, w_in, hx, if_pos bI_f]
    · rw [hsee Y hY, s_win (by omega), hx, if_pos bI_f]
  | true =>
  cases hy : inR 8 y with
  | false =>
    refine no ?_ (fun Y hY => ?_)
    · rw [hn, if_neg hkn, w_in, hx, if_neg t1, w_in, hy, if_pos bI_f]
    · rw [hsee Y hY, s_win (by omega), hx, if_neg t1, s_win (by omega), hy, if_pos bI_f]
  | true =>
  have w01 : f_X10_within w (-(nI 999)) (nI 999) = nI 0 ∨ f_X10_within w (-(nI 999)) (nI 999) = nI 1 := by
    unfold f_X10_within
    simp only [litM]
    split
    · exact Or.inl rfl
    · split
      · exact Or.inl rfl
      · exact Or.inr rfl
  by_cases hw : w = nI 9999 ∨ f_X10_within w (-(nI 999)) (nI 999) = nI 1
  · obtain ⟨p, hp, rfl⟩ := inR_ex (by omega) hx
    obtain ⟨q, hq, rfl⟩ := inR_ex (by omega) hy
    obtain ⟨X2, hX2⟩ : ∃ X2, X2 = sI (sI (sI (sI X (a + 49 + 1) k (nI p)) (a + 49 + 2) k (nI q)) (a + 49 + 3) k w) (a + 49) 0 (nI (k + 1)) := ⟨_, rfl⟩
    have e2 : f_X4_note σ X (a + 49) (nI p) (nI q) w = some (nI 1, X2) := by
      rw [hn, if_neg hkn, w_in, hx, if_neg t1, w_in, hy, if_neg t1, holds0, decide_eq_true hw, if_neg t1, stA_t n4 (by omega) (by omega), stA_t n6 (by omega) (by omega), stA_t n8 (by omega) (by omega), stI_t n0, nI_add, hX2]
    have x2 : ∀ q, (q < a + 49 ∨ a + 52 < q) → X2.1 q = X.1 q := fun q hq => by rw [hX2, sI_ne (by omega), sI_ne (by omega), sI_ne (by omega), sI_ne (by omega)]
    obtain ⟨X3, e3, v1, v2⟩ := q_clear (X := X2) hs
    have x3 : ∀ q, q ≠ a + 81 → (q < a + 49 ∨ a + 52 < q) → X3.1 q = X.1 q := fun q q1 q2 => by rw [v1 q q1, x2 q q2]
    obtain ⟨Y3, hY3⟩ : ∃ Y3, Y3 = sI (sI (sI (sI (sI X3 (a + 108) 0 (nI 0)) (a + 108 + 14) (3 * k) (nI p)) (a + 108 + 14) (3 * k + 1) (nI q)) (a + 108 + 14) (3 * k + 2) w) (a + 108) 32 (nI (k + 1)) := ⟨_, rfl⟩
    have y3 : ∀ q, q ≠ a + 108 → q ≠ a + 122 → Y3.1 q = X3.1 q := fun q q1 q2 => by rw [hY3, sI_ne q1, sI_ne (by omega), sI_ne (by omega), sI_ne (by omega), sI_ne q1]
    have y122 : ∀ j, Y3.1 (a + 122) j = if j = 3 * k + 2 then w else if j = 3 * k + 1 then nI q else if j = 3 * k then nI p else X.1 (a + 122) j := fun j => by
      rw [hY3, sI_na (by omega)]
      show (sI _ (a + 122) (3 * k + 2) w).1 (a + 122) j = _
      by_cases j2 : j = 3 * k + 2
      · rw [j2, sI_eq, if_pos rfl]
      · rw [sI_nk j2, if_neg j2]
        show (sI _ (a + 122) (3 * k + 1) (nI q)).1 (a + 122) j = _
        by_cases j1 : j = 3 * k + 1
        · rw [j1, sI_eq, if_pos rfl]
        · rw [sI_nk j1, if_neg j1]
          show (sI _ (a + 122) (3 * k) (nI p)).1 (a + 122) j = _
          by_cases j0 : j = 3 * k
          · rw [j0, sI_eq, if_pos rfl]
          · rw [sI_nk j0, if_neg j0, sI_na (by omega), x3 _ (by omega) (by omega)]
    refine ⟨nI (k + 1), X3, Y3, L, R, ?_, ?_, ?_⟩
    · unfold f_X9_see
      simp only [litM]
      rw [grd_t o0]
      simp only [ldR, o0, o5, o6, o10, if_true, Option.bind_some]
      rw [e2, bnd2_k, if_neg (by decide), e3, Option.bind_some, ldI_t n0, v1 _ (by omega), hX2, sI_eq]
    · have e60 : f_X10_see_60 σ (a + 108) (nI p) (nI q) w (sI X3 (a + 108) 0 (nI 0)) = some (nI (k + 1), Y3) := by
        have g32 : X3.1 (a + 108) 32 = nI k := by rw [x3 _ (by omega) (by omega)]; exact k2
        rw [hY3]
        obtain ⟨m0, m1, m2, m3, m4, m5, m6, m7, m8, m9, m10, m11, m12, m13, m14, m15, m16, m17, mq1, mq2, mq3, mq4, mq5, mq6, mq7, mq8, mq9, mq10, mq11, mq12, mq13, mq14, mq15, mq16, mq17, mn1, mn2, mn3, mn4, mn5, mn6, mn7, mn8, mn9, mn10, mn11, mn12, mn13, mn14, mn15, mn16, mn17⟩ := hD
        simp (disch := first | assumption | omega) only [f_X10_see_60, litM, grd_t, grd_T, ldI_t, stI_t, ldA_t, stA_t, lenA_t, n_lt_t, n_lt_f, n_le_t, n_le_f, n_eq_t, n_eq_f, if_true, if_false, nI_add, nI_mul, bt_d, bI_z, bI_o, Option.bind_some, Bool.true_eq_false, Bool.false_eq_true, ldR, eq_self, if_true, Option.bind_some, m0, m14, g32, sI_na, sI_nk, sI_eq]
      have e := hsee X3 (by rw [x3 _ (by omega) (by omega)]; exact k2)
      rw [s_win (by omega), hx, if_neg t1, s_win (by omega), hy, if_neg t1] at e
      refine Eq.trans e ?_
      by_cases hw9 : w = nI 9999
      · rw [if_pos hw9]; exact e60
      · rw [if_neg hw9, if_neg (by rw [hw.resolve_left hw9]; decide)]; exact e60
    · refine h.seen (fun q q1 q2 q3 q4 => by rw [y3 q q4 q3, x3 q q1 q2]) (fun j j1 j2 => ?_) ?_ (fun q hq => by rw [y3 _ (by omega) (by omega)]; exact v2 q hq)
      · rw [hY3, sI_nk j2, sI_na (by omega), sI_na (by omega), sI_na (by omega), sI_nk j1, x3 _ (by omega) (by omega)]
      · have c0 : ∀ q, a + 49 ≤ q → q ≤ a + 52 → Y3.1 q = X2.1 q := fun q q1 q2 => by rw [y3 q (by omega) (by omega), v1 q (by omega)]
        refine ⟨k + 1, by omega, by rw [c0 _ (by omega) (by omega), hX2, sI_eq], by rw [hY3, sI_eq], fun i hi => ?_⟩
        rw [c0 (a + 49 + 1) (by omega) (by omega), c0 (a + 49 + 2) (by omega) (by omega), c0 (a + 49 + 3) (by omega) (by omega), y122, y122, y122]
        by_cases e : i = k
        · subst e
          refine ⟨p, q, by omega, by omega, ?_, ?_, ?_, ?_, ?_⟩
          · rw [hX2, sI_na (by omega), sI_na (by omega), sI_na (by omega), sI_eq]
          · rw [hX2, sI_na (by omega), sI_na (by omega), sI_eq]
          · rw [if_neg (by omega), if_neg (by omega), if_pos rfl]
          · rw [if_neg (by omega), if_pos rfl]
          · rw [if_pos rfl, hX2, sI_na (by omega), sI_eq]
        · obtain ⟨p', q', a1, a2, a3, a4, a5, a6, a7⟩ := k3 i (by omega)
          refine ⟨p', q', a1, a2, ?_, ?_, ?_, ?_, ?_⟩
          · rw [hX2, sI_na (by omega), sI_na (by omega), sI_na (by omega), sI_nk e]; exact a3
          · rw [hX2, sI_na (by omega), sI_na (by omega), sI_nk e, sI_na (by omega)]; exact a4
          · rw [if_neg (by omega), if_neg (by omega), if_neg (by omega)]; exact a5
          · rw [if_neg (by omega), if_neg (by omega), if_neg (by omega)]; exact a6
          · rw [if_neg (by omega), if_neg (by omega), if_neg (by omega), hX2, sI_na (by omega), sI_nk e, sI_na (by omega), sI_na (by omega)]; exact a7
  · have hw9 : ¬ w = nI 9999 := fun e => hw (Or.inl e)
    have hwn : f_X10_within w (-(nI 999)) (nI 999) = nI 0 := w01.resolve_right (fun e => hw (Or.inr e))
    refine no ?_ (fun Y hY => ?_)
    · rw [hn, if_neg hkn, w_in, hx, if_neg t1, w_in, hy, if_neg t1, holds0, decide_eq_false hw, if_pos bI_f]
    · rw [hsee Y hY, s_win (by omega), hx, if_neg t1, s_win (by omega), hy, if_neg t1, if_neg hw9, if_pos hwn]
