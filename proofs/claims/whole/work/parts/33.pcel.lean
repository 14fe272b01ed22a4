/-! ===== cells ===== -/
theorem MI.pre {B n g m : Nat} {P : Nat → Prop} {ch : Nat → Int32} {Lh Rh : Int32} {X0 X Y0 Y : Mx} {v : Int32} {j : Nat} (h : MI B P n ch Lh Rh X0 X g Y0 Y m) (hj : B ≤ j) {a : Nat} (ha : a = m + 7 ∨ a = m + 8) : MI B P n ch Lh Rh X0 X g Y0 (sI Y a j v) m := by
  obtain ⟨f1, f2, ⟨t1, t2, t3, t4, t5, t6, t7⟩, cf, u, sr⟩ := h
  refine ⟨f1, ⟨f2.1, fun q h1 h2 => ?_, fun i h1 h2 h3 => ?_⟩, ?_, ?_, ?_, ?_⟩
  · rw [sI_ne (by omega)]; exact f2.2.1 q h1 h2
  · rw [sI_na (by omega)]; exact f2.2.2 i h1 h2 h3
  · simp (disch := first | assumption | omega) only [sI_na, sI_ne]
    refine ⟨t1, t2, t3, t4, t5, fun i d hi hd hB hb1 hb2 => ?_, t7⟩
    rw [sI_nk (by omega), sI_nk (by omega)]
    exact t6 i d hi hd hB hb1 hb2
  · simp (disch := first | assumption | omega) only [sI_na, sI_ne]; exact cf
  · simp (disch := first | assumption | omega) only [sI_na, sI_ne]; exact u
  · simp (disch := first | assumption | omega) only [sI_na, sI_ne]; exact sr
theorem MI.fin {n g m c : Nat} {P : Nat → Prop} {ch : Nat → Int32} {Lh Rh : Int32} {X0 X Y0 Y : Mx} {k : Nat} {v w : Int32} (h : MI (9 * k + c) P n ch Lh Rh X0 X g Y0 Y m) (hk : k < 20) (hc : c < 9) (hbk : bt (Y.1 m 21) k = true) (hbc : bt (Y.1 m 20) c = true) (hv : Y.1 (m + 7) (9 * k + c) = v) (hw : Y.1 (m + 8) (9 * k + c) = w) : MI (9 * k + c + 1) P n ch Lh Rh X0 (sI (sI X (g + 4) (9 * k + c) v) (g + 5) (9 * k + c) w) g Y0 Y m := by
  obtain ⟨f1, f2, ⟨t1, t2, t3, t4, t5, t6, t7⟩, cf, u, sr⟩ := h
  refine ⟨⟨f1.1, fun q hq => ?_⟩, f2, ?_, ?_, ?_, ?_⟩
  · rw [sI_ne (by omega), sI_ne (by omega)]; exact f1.2 q hq
  · simp (disch := first | assumption | omega) only [sI_na, sI_ne]
    refine ⟨t1, t2, t3, t4, t5, fun i d hi hd hB hb1 hb2 => ?_, fun i d hi hd h0 => ?_⟩
    · by_cases e : 9 * i + d = 9 * k + c
      · rw [e, sI_eq, sI_eq, hv, hw]; exact ⟨rfl, rfl⟩
      · simp (disch := first | assumption | omega) only [sI_na, sI_nk]; exact t6 i d hi hd (by omega) hb1 hb2
    · have e : 9 * i + d ≠ 9 * k + c := fun e => by
        have e1 : i = k := by omega
        have e2 : d = c := by omega
        subst e1; subst e2
        rcases h0 with q | q | q
        · rw [hbk] at q; cases q
        · rw [hbc] at q; cases q
        · omega
      rw [sI_nk e]
      exact t7 i d hi hd (h0.imp_right (fun q => q.imp_right (fun q => by omega)))
  · simp (disch := first | assumption | omega) only [sI_na, sI_ne]; exact cf
  · simp (disch := first | assumption | omega) only [sI_na, sI_ne]; exact u
  · simp (disch := first | assumption | omega) only [sI_na, sI_ne]; exact sr
theorem MI.skip {n g m c : Nat} {P : Nat → Prop} {ch : Nat → Int32} {Lh Rh : Int32} {X0 X Y0 Y : Mx} {k : Nat} (h : MI (9 * k + c) P n ch Lh Rh X0 X g Y0 Y m) (hc : c < 9) (hb : bt (Y.1 m 21) k = false ∨ bt (Y.1 m 20) c = false) : MI (9 * k + c + 1) P n ch Lh Rh X0 X g Y0 Y m := by
  obtain ⟨f1, f2, ⟨t1, t2, t3, t4, t5, t6, t7⟩, cf, u, sr⟩ := h
  refine ⟨f1, f2, ⟨t1, t2, t3, t4, t5, fun i d hi hd hB hb1 hb2 => ?_, fun i d hi hd h0 => ?_⟩, cf, u, sr⟩
  · have e : 9 * i + d ≠ 9 * k + c := fun e => by
      have e1 : i = k := by omega
      have e2 : d = c := by omega
      subst e1; subst e2
      rw [hb1, hb2] at hb
      rcases hb with q | q <;> cases q
    exact t6 i d hi hd (by omega) hb1 hb2
  · exact t7 i d hi hd (h0.imp_right (fun q => q.imp_right (fun q => by omega)))
theorem s_putMerged {σ : Sh} {X : Mx} {g k c : Nat} {v w : Int32} (hg : mgOK σ g) (hk : k < 20) (hc : c < 9) (hbk : bt (X.1 (g + 1) 1) k = true) (hbc : bt (X.1 (g + 1) 0) c = true) : f_X2_putMerged σ X g (nI k) (nI c) v w = some (sI (sI X (g + 4) (9 * k + c) v) (g + 5) (9 * k + c) w) := by
  have hg' := hg
  obtain ⟨g0, g1, g2, g3, g4, g5, g6, gT, k5, l5, k6, l6, k7, l7, k8, l8, k9, l9⟩ := hg
  unfold f_X2_putMerged
  rw [grd_t g0, ldR_g hg', s_hasCell gT, inB_n hk (by omega), inB_n hc (by omega), hbk, hbc]
  simp (disch := first | assumption | omega) only [litM, grd_t, grd_T, ldI_t, stI_t, ldA_t, stA_t, lenA_t, n_lt_t, n_lt_f, n_le_t, n_le_f, n_eq_t, n_eq_f, if_true, if_false, nI_add, nI_mul, bt_d, bI_z, bI_o, Option.bind_some, Bool.true_eq_false, Bool.false_eq_true, s_putNumber gT, ldR, eq_self, if_true, Option.bind_some, g0, g1, g2, nine, Bool.and_true, Bool.and_self, bI_t]
theorem s10_sideCell {τ : Sh} {Y : Mx} {m b t k c r : Nat} (hm : mdOK τ m) (hb : b ≤ 931) (ht : t < 2) (hk : k < 20) (hc : c < 9) (hr : r < 9) (hso : Y.1 (m + 9) (9 * t + c) = nI r) : f_X10_sideCell τ Y m (nI b) (nI t) (nI k) (nI c) = some (f_X10_castTo (Y.1 (m + 6) c) (Y.1 (m + 3) (b + 200 * t + 20 + 9 * k + r))) := by
  obtain ⟨m0, m1, m2, m3, m4, m5, m6, m7, m8, m9, m10, m11, m12, m13, m14, m15, m16, m17, mq1, mq2, mq3, mq4, mq5, mq6, mq7, mq8, mq9, mq10, mq11, mq12, mq13, mq14, mq15, mq16, mq17, mn1, mn2, mn3, mn4, mn5, mn6, mn7, mn8, mn9, mn10, mn11, mn12, mn13, mn14, mn15, mn16, mn17⟩ := hm
  simp (disch := first | assumption | omega) only [f_X10_sideCell, litM, grd_t, grd_T, ldI_t, stI_t, ldA_t, stA_t, lenA_t, n_lt_t, n_lt_f, n_le_t, n_le_f, n_eq_t, n_eq_f, if_true, if_false, nI_add, nI_mul, bt_d, bI_z, bI_o, Option.bind_some, Bool.true_eq_false, Bool.false_eq_true, ldR, eq_self, if_true, Option.bind_some, m0, m3, m6, m9, hso, s10_cellAt]
theorem s10_isChangedAt {τ : Sh} {Y : Mx} {m b t k c r : Nat} (hm : mdOK τ m) (hb : b ≤ 931) (ht : t < 2) (hk : k < 20) (hc : c < 9) (hr : r < 9) (hso : Y.1 (m + 9) (9 * t + c) = nI r) : f_X10_isChangedAt τ Y m (nI b) (nI t) (nI k) (nI c) = some (bI (rChg (Y.1 (m + 3)) b t k r)) := by
  have hm' := hm
  obtain ⟨m0, m1, m2, m3, m4, m5, m6, m7, m8, m9, m10, m11, m12, m13, m14, m15, m16, m17, mq1, mq2, mq3, mq4, mq5, mq6, mq7, mq8, mq9, mq10, mq11, mq12, mq13, mq14, mq15, mq16, mq17, mn1, mn2, mn3, mn4, mn5, mn6, mn7, mn8, mn9, mn10, mn11, mn12, mn13, mn14, mn15, mn16, mn17⟩ := hm
  simp (disch := first | assumption | omega) only [f_X10_isChangedAt, litM, grd_t, grd_T, ldI_t, stI_t, ldA_t, stA_t, lenA_t, n_lt_t, n_lt_f, n_le_t, n_le_f, n_eq_t, n_eq_f, if_true, if_false, nI_add, nI_mul, bt_d, bI_z, bI_o, Option.bind_some, Bool.true_eq_false, Bool.false_eq_true, ldR, eq_self, if_true, Option.bind_some, m0, m9, hso, m_lt, m_le, m_eq, m_eq2, s10_isChanged hm']
  cases rChg (Y.1 (m + 3)) b t k r <;> rfl
theorem s10_isChangedAt_m {τ : Sh} {Y : Mx} {m b t k c : Nat} (hm : mdOK τ m) (ht : t < 2) (hc : c < 9) (hso : Y.1 (m + 9) (9 * t + c) = -(nI 1)) : f_X10_isChangedAt τ Y m (nI b) (nI t) (nI k) (nI c) = some (nI 0) := by
  obtain ⟨m0, m1, m2, m3, m4, m5, m6, m7, m8, m9, m10, m11, m12, m13, m14, m15, m16, m17, mq1, mq2, mq3, mq4, mq5, mq6, mq7, mq8, mq9, mq10, mq11, mq12, mq13, mq14, mq15, mq16, mq17, mn1, mn2, mn3, mn4, mn5, mn6, mn7, mn8, mn9, mn10, mn11, mn12, mn13, mn14, mn15, mn16, mn17⟩ := hm
  simp (disch := first | assumption | omega) only [f_X10_isChangedAt, litM, grd_t, grd_T, ldI_t, stI_t, ldA_t, stA_t, lenA_t, n_lt_t, n_lt_f, n_le_t, n_le_f, n_eq_t, n_eq_f, if_true, if_false, nI_add, nI_mul, bt_d, bI_z, bI_o, Option.bind_some, Bool.true_eq_false, Bool.false_eq_true, ldR, eq_self, if_true, Option.bind_some, m0, m9, hso]
/-- what the two see of a side at a merged cell: whether it is changed there, and its number -/
theorem sideL_rel {σ τ : Sh} {g m s L R b c : Nat} {Lh Rh : Int32} {X Y : Mx} {k : Nat} (hs : stOK σ s L R) (hm : mdOK τ m) (hb : b ≤ 931) (hS : StR X.1 s L R (Y.1 (m + 3)) b) (hLh : Lh = X.1 L 0) (hk : k < 20) (hc : c < 9) (hbc : bt (Y.1 m 20) c = true) (sr : SR (Y.1 m 20) Lh Rh (X.1 (g + 9)) (Y.1 (m + 9))) :
    f_X10_isChangedAt τ Y m (nI b) (nI 0) (nI k) (nI c) = some (bI (cChg X.1 (s + 1) L k c)) ∧ (cChg X.1 (s + 1) L k c = true → Y.1 (m + 9) (9 * 0 + c) = nI c ∧ Y.1 (m + 3) (b + 200 * 0 + 20 + 9 * k + c) = X.1 (L + 3) (9 * k + c)) := by
  obtain ⟨tL, tR, tB, lB, lL, lR, -⟩ := hS
  obtain ⟨r1, r2, r3⟩ := sr c hc hbc
  have hrel := chg_rel (t := 0) tB tL hk hc
  have hcell : cChg X.1 (s + 1) L k c = true → Y.1 (m + 3) (b + 200 * 0 + 20 + 9 * k + c) = X.1 (L + 3) (9 * k + c) := fun q => by
    unfold cChg at q
    simp only [Bool.and_eq_true] at q
    exact (tL.2.2.2.2.2.1 k c hk hc q.1.1 q.1.2).symm
  have yes : Y.1 (m + 9) (9 * 0 + c) = nI c → f_X10_isChangedAt τ Y m (nI b) (nI 0) (nI k) (nI c) = some (bI (cChg X.1 (s + 1) L k c)) ∧ (cChg X.1 (s + 1) L k c = true → Y.1 (m + 9) (9 * 0 + c) = nI c ∧ Y.1 (m + 3) (b + 200 * 0 + 20 + 9 * k + c) = X.1 (L + 3) (9 * k + c)) := fun hso => ⟨by rw [s10_isChangedAt hm hb (by omega) hk hc hc hso, hrel], fun q => ⟨hso, hcell q⟩⟩
  have no : Y.1 (m + 9) (9 * 0 + c) = -(nI 1) → bt (X.1 L 0) c = false → f_X10_isChangedAt τ Y m (nI b) (nI 0) (nI k) (nI c) = some (bI (cChg X.1 (s + 1) L k c)) ∧ (cChg X.1 (s + 1) L k c = true → Y.1 (m + 9) (9 * 0 + c) = nI c ∧ Y.1 (m + 3) (b + 200 * 0 + 20 + 9 * k + c) = X.1 (L + 3) (9 * k + c)) := fun hso hbl => by
    have ez : cChg X.1 (s + 1) L k c = false := by unfold cChg; rw [hbl]; simp
    rw [ez]
    exact ⟨s10_isChangedAt_m hm (by omega) hc hso, fun q => by cases q⟩
  have e9 : 9 * 0 + c = c := by omega
  rw [e9] at yes no ⊢
  rcases (show c < 5 ∨ (5 ≤ c ∧ c < 7) ∨ 7 ≤ c by omega) with h5 | h5 | h5
  · obtain ⟨-, a2, -⟩ := r1 h5
    cases el : bt Lh c with
    | true => rw [el, if_pos rfl] at a2; exact yes a2
    | false => rw [el, if_neg (by decide)] at a2; exact no a2 (by rw [← hLh]; exact el)
  · exact yes (r2 h5.1 h5.2).2.1
  · obtain ⟨-, a2, -⟩ := r3 h5
    exact no a2 ((show c = 7 ∨ c = 8 by omega).elim (fun e => by rw [e]; exact lL.1) (fun e => by rw [e]; exact lL.2))
theorem sideR_rel {σ τ : Sh} {g m s L R b c : Nat} {Lh Rh : Int32} {X Y : Mx} {k : Nat} (hs : stOK σ s L R) (hm : mdOK τ m) (hb : b ≤ 931) (hS : StR X.1 s L R (Y.1 (m + 3)) b) (hRh : Rh = X.1 R 0) (hk : k < 20) (hc : c < 9) (hbc : bt (Y.1 m 20) c = true) (sr : SR (Y.1 m 20) Lh Rh (X.1 (g + 9)) (Y.1 (m + 9))) :
    ∃ (cR : Bool) (nR : Int32), f_X5_isChanged σ X s (nI 1) (nI k) (X.1 (g + 9) c) = some (bI cR) ∧ f_X6_numberAt σ X R (nI k) (X.1 (g + 9) c) = some nR ∧ f_X10_isChangedAt τ Y m (nI b) (nI 1) (nI k) (nI c) = some (bI cR) ∧ (cR = true → ∃ r, r < 9 ∧ Y.1 (m + 9) (9 * 1 + c) = nI r ∧ Y.1 (m + 3) (b + 200 * 1 + 20 + 9 * k + r) = nR) := by
  obtain ⟨tL, tR, tB, lB, lL, lR, -⟩ := hS
  obtain ⟨r1, r2, r3⟩ := sr c hc hbc
  have hR10 : tabOK σ R := hs.2.2.2.2.2.2.2.2.2.2.1
  have yes : ∀ r, r < 9 → X.1 (g + 9) c = nI r → Y.1 (m + 9) (9 * 1 + c) = nI r → ∃ (cR : Bool) (nR : Int32), f_X5_isChanged σ X s (nI 1) (nI k) (X.1 (g + 9) c) = some (bI cR) ∧ f_X6_numberAt σ X R (nI k) (X.1 (g + 9) c) = some nR ∧ f_X10_isChangedAt τ Y m (nI b) (nI 1) (nI k) (nI c) = some (bI cR) ∧ (cR = true → ∃ r, r < 9 ∧ Y.1 (m + 9) (9 * 1 + c) = nI r ∧ Y.1 (m + 3) (b + 200 * 1 + 20 + 9 * k + r) = nR) := by
    intro r hr hcr hso
    refine ⟨cChg X.1 (s + 1) R k r, X.1 (R + 3) (9 * k + r), by rw [hcr]; exact s_isChanged hs (by omega) hk hr, by rw [hcr]; exact s_numberAt hR10 hk hr, by rw [s10_isChangedAt hm hb (by omega) hk hc hr hso, chg_rel (t := 1) tB tR hk hr], fun q => ⟨r, hr, hso, ?_⟩⟩
    unfold cChg at q
    simp only [Bool.and_eq_true] at q
    exact (tR.2.2.2.2.2.1 k r hk hr q.1.1 q.1.2).symm
  have no : ∀ r, r < 9 → X.1 (g + 9) c = nI r → Y.1 (m + 9) (9 * 1 + c) = -(nI 1) → bt (X.1 R 0) r = false → ∃ (cR : Bool) (nR : Int32), f_X5_isChanged σ X s (nI 1) (nI k) (X.1 (g + 9) c) = some (bI cR) ∧ f_X6_numberAt σ X R (nI k) (X.1 (g + 9) c) = some nR ∧ f_X10_isChangedAt τ Y m (nI b) (nI 1) (nI k) (nI c) = some (bI cR) ∧ (cR = true → ∃ r, r < 9 ∧ Y.1 (m + 9) (9 * 1 + c) = nI r ∧ Y.1 (m + 3) (b + 200 * 1 + 20 + 9 * k + r) = nR) := by
    intro r hr hcr hso hbr
    have ez : cChg X.1 (s + 1) R k r = false := by unfold cChg; rw [hbr]; simp
    refine ⟨false, X.1 (R + 3) (9 * k + r), by rw [hcr, ← ez]; exact s_isChanged hs (by omega) hk hr, by rw [hcr]; exact s_numberAt hR10 hk hr, s10_isChangedAt_m hm (by omega) hc hso, fun q => by cases q⟩
  have e9 : 9 * 1 + c = 9 + c := by omega
  rw [e9] at yes no ⊢
  rcases (show c < 5 ∨ (5 ≤ c ∧ c < 7) ∨ 7 ≤ c by omega) with h5 | h5 | h5
  · obtain ⟨a1, -, a3⟩ := r1 h5
    cases er : bt Rh c with
    | true => rw [er, if_pos rfl] at a3; exact yes c hc a1 a3
    | false => rw [er, if_neg (by decide)] at a3; exact no c hc a1 a3 (by rw [← hRh]; exact er)
  · obtain ⟨-, -, a3, a4⟩ := r2 h5.1 h5.2
    rcases a4 with a4 | a4 | a4
    · refine ⟨false, nI 9999, by rw [a3, a4]; exact s_isChanged_m hs (by omega) hk, by rw [a3, a4]; exact s_numberAt_m hR10 hk, s10_isChangedAt_m hm (by omega) hc (by rw [e9]; exact a4), fun q => by cases q⟩
    · exact yes 7 (by omega) (a3.trans a4) a4
    · exact yes 8 (by omega) (a3.trans a4) a4
  · obtain ⟨-, -, a3, a4⟩ := r3 h5
    exact yes c hc a4 a3
theorem cell_rel {σ τ : Sh} {n g m s L R b k c : Nat} {ch : Nat → Int32} {Lh Rh : Int32} {X0 X Y0 Y : Mx} (hg : mgOK σ g) (hs : stOK σ s L R) (hm : mdOK τ m) (hb : b ≤ 931) (hd : s + 16 < g ∨ g + 9 < s) (hS0 : StR X0.1 s L R (Y0.1 (m + 3)) b) (hch : ch = X0.1 (s + 16)) (hLh : Lh = X0.1 L 0) (hRh : Rh = X0.1 R 0) (hk : k < 20) (hc : c < 9) (hbk : bt (Y.1 m 21) k = true) (hbc : bt (Y.1 m 20) c = true) (h : MI (9 * k + c) (fun j => j < 56 + (9 * k + c)) n ch Lh Rh X0 X g Y0 Y m) (hn : n ≤ 39 + (9 * k + c)) :
    ∃ X1 Y1 n1, f_X2_mergeCell σ X g s (nI k) (nI c) = some X1 ∧ f_X10_mergesCell τ Y m (nI b) (nI k) (nI c) = some Y1 ∧ n1 ≤ 39 + (9 * k + c + 1) ∧ MI (9 * k + c + 1) (fun j => j < 56 + (9 * k + c + 1)) n1 ch Lh Rh X0 X1 g Y0 Y1 m ∧ Y1.1 m 20 = Y.1 m 20 ∧ Y1.1 m 21 = Y.1 m 21 := by
  have hS := h.st hs hd hS0
  have hLR := hs.2.2.2.2.2.2.2.2.2.2.2.2.2.2.2.2.2.2
  have xC : X.1 (s + 16) = X0.1 (s + 16) := h.1.2 _ (by omega)
  have xL : X.1 L = X0.1 L := h.1.2 _ (by omega)
  have xR : X.1 R = X0.1 R := h.1.2 _ (by omega)
  have hm' := hm
  have hg' := hg
  have hs' := hs
  obtain ⟨t1, t2, t3, t4, t5, t6, t7⟩ := h.2.2.1
  obtain ⟨-, ty1, q, hq, ty2⟩ := t5 c hc hbc
  have tyY : Y.1 (m + 6) c = nI q := ty1.symm.trans ty2
  obtain ⟨l1, l2⟩ := sideL_rel (g := g) (k := k) hs hm hb hS (hLh.trans (by rw [xL])) hk hc hbc h.2.2.2.2.2
  obtain ⟨cR, nR, p1, p2, p3, p4⟩ := sideR_rel (g := g) (k := k) hs hm hb hS (hRh.trans (by rw [xR])) hk hc hbc h.2.2.2.2.2
  have hbase : rBase (Y.1 (m + 3)) b k c = X.1 (s + 1 + 3) (9 * k + c) := base_rel hS.2.2.1 hk hc
  obtain ⟨Y1, hY1⟩ : ∃ Z, Z = sI (sI Y (m + 7) (9 * k + c) (f_X8_cast (X.1 (s + 1 + 3) (9 * k + c)) (nI q))) (m + 8) (9 * k + c) (nI 0) := ⟨_, rfl⟩
  have hM1 : MI (9 * k + c) (fun j => j < 56 + (9 * k + c)) n ch Lh Rh X0 X g Y0 Y1 m := by
    rw [hY1]; exact (h.pre (Nat.le_refl _) (Or.inl rfl)).pre (Nat.le_refl _) (Or.inr rfl)
  have y20 : Y1.1 m 20 = Y.1 m 20 := by rw [hY1, sI_na (by omega), sI_na (by omega)]
  have y21 : Y1.1 m 21 = Y.1 m 21 := by rw [hY1, sI_na (by omega), sI_na (by omega)]
  have y3 : Y1.1 (m + 3) = Y.1 (m + 3) := by rw [hY1, sI_ne (by omega), sI_ne (by omega)]
  have y6 : Y1.1 (m + 6) = Y.1 (m + 6) := by rw [hY1, sI_ne (by omega), sI_ne (by omega)]
  have y9 : Y1.1 (m + 9) = Y.1 (m + 9) := by rw [hY1, sI_ne (by omega), sI_ne (by omega)]
  have y7 : Y1.1 (m + 7) (9 * k + c) = f_X8_cast (X.1 (s + 1 + 3) (9 * k + c)) (nI q) := by rw [hY1, sI_na (by omega), sI_eq]
  have y8 : Y1.1 (m + 8) (9 * k + c) = nI 0 := by rw [hY1, sI_eq]
  have em : f_X10_mergesCell τ Y m (nI b) (nI k) (nI c) = (if bI (cChg X.1 (s + 1) L k c) = nI 0 then (if bI cR = nI 0 then some Y1 else f_X10_mergesCell_70 τ m (nI b) (nI k) (nI c) (nI (9 * k + c)) (bI (cChg X.1 (s + 1) L k c)) (bI cR) Y1) else f_X10_mergesCell_70 τ m (nI b) (nI k) (nI c) (nI (9 * k + c)) (bI (cChg X.1 (s + 1) L k c)) (bI cR) Y1) := by
    unfold f_X10_mergesCell
    simp only [litM]
    rw [grd_t hm.1, l1, p3]
    simp only [Option.bind_some]
    rw [s10_baseCell hm' hb hk hc, hbase]
    obtain ⟨m0, m1, m2, m3, m4, m5, m6, m7, m8, m9, m10, m11, m12, m13, m14, m15, m16, m17, mq1, mq2, mq3, mq4, mq5, mq6, mq7, mq8, mq9, mq10, mq11, mq12, mq13, mq14, mq15, mq16, mq17, mn1, mn2, mn3, mn4, mn5, mn6, mn7, mn8, mn9, mn10, mn11, mn12, mn13, mn14, mn15, mn16, mn17⟩ := hm
    simp (disch := first | assumption | omega) only [litM, grd_t, grd_T, ldI_t, stI_t, ldA_t, stA_t, lenA_t, n_lt_t, n_lt_f, n_le_t, n_le_f, n_eq_t, n_eq_f, if_true, if_false, nI_add, nI_mul, bt_d, bI_z, bI_o, Option.bind_some, Bool.true_eq_false, Bool.false_eq_true, ldR, eq_self, if_true, Option.bind_some, m0, m6, m7, m8, tyY, cast_eq]
    rw [← hY1]
  have es : ∀ t r v, t < 2 → r < 9 → Y.1 (m + 9) (9 * t + c) = nI r → Y.1 (m + 3) (b + 200 * t + 20 + 9 * k + r) = v → f_X10_sideCell τ Y1 m (nI b) (nI t) (nI k) (nI c) = some (f_X8_cast v (nI q)) := by
    intro t r v ht hr h1 h2
    rw [s10_sideCell hm hb ht hk hc hr (by rw [y9]; exact h1), y6, y3, h2, tyY, cast_eq _ hq]
  have e1 : bt (X.1 (g + 1) 1) k = true := by rw [t2]; exact hbk
  have e0 : bt (X.1 (g + 1) 0) c = true := by rw [t1]; exact hbc
  have ec : f_X2_mergeCell σ X g s (nI k) (nI c) = (if bI (cChg X.1 (s + 1) L k c) = nI 0 then (if bI cR = nI 0 then f_X2_mergeCell_50 σ g s (nI k) (nI c) (nI q) (X.1 (g + 9) c) X (nI 0) (nI 0) else f_X2_mergeCell_50 σ g s (nI k) (nI c) (nI q) (X.1 (g + 9) c) X (nI 0) (nI 2)) else (if bI cR = nI 0 then f_X2_mergeCell_50 σ g s (nI k) (nI c) (nI q) (X.1 (g + 9) c) X (nI 1) (nI 0) else f_X2_mergeCell_50 σ g s (nI k) (nI c) (nI q) (X.1 (g + 9) c) X (nI 1) (nI 2))) := by
    have hL0 := s_isChanged (X := X) (k := k) (c := c) hs (show 0 < 2 by omega) hk hc
    have hsd : sd 0 L R = L := rfl
    rw [hsd] at hL0
    unfold f_X2_mergeCell f_X2_mergeCell_34
    obtain ⟨g0, g1, g2, g3, g4, g5, g6, gT, k5, l5, k6, l6, k7, l7, k8, l8, k9, l9⟩ := hg
    obtain ⟨h1, h2, h3, h4, h5, h6, h7, h8, h9, h10⟩ := gT
    simp (disch := first | assumption | omega) only [litM, grd_t, grd_T, ldI_t, stI_t, ldA_t, stA_t, lenA_t, n_lt_t, n_lt_f, n_le_t, n_le_f, n_eq_t, n_eq_f, if_true, if_false, nI_add, nI_mul, bt_d, bI_z, bI_o, Option.bind_some, Bool.true_eq_false, Bool.false_eq_true, ldR, eq_self, if_true, Option.bind_some, g0, g1, g6, h1, h3, ty2, hL0, p1]
  have e50 : ∀ x y : Nat, x < 3 → y < 3 → f_X2_mergeCell_50 σ g s (nI k) (nI c) (nI q) (X.1 (g + 9) c) X (nI x) (nI y) = (if nI (x + y) = nI 0 then f_X2_putMerged σ X g (nI k) (nI c) (f_X8_cast (X.1 (s + 1 + 3) (9 * k + c)) (nI q)) (nI 0) else (if nI (x + y) = nI 3 then (if f_X8_cast (X.1 (L + 3) (9 * k + c)) (nI q) = f_X8_cast nR (nI q) then f_X2_mergeCell_151 σ g (nI k) (nI c) (nI (x + y)) (f_X8_cast (X.1 (s + 1 + 3) (9 * k + c)) (nI q)) (f_X8_cast (X.1 (L + 3) (9 * k + c)) (nI q)) (f_X8_cast nR (nI q)) X else bnd2 (f_X2_ask σ X g s (f_X1_idOf (nI 5) (nI k) (nI c)) (f_X8_cast (X.1 (L + 3) (9 * k + c)) (nI q)) (f_X8_cast nR (nI q))) fun v12 X11 => f_X2_mergeCell_151 σ g (nI k) (nI c) (f_J9_max_7cf53 (nI 0) v12) (f_X8_cast (X.1 (s + 1 + 3) (9 * k + c)) (nI q)) (f_X8_cast (X.1 (L + 3) (9 * k + c)) (nI q)) (f_X8_cast nR (nI q)) X11) else f_X2_mergeCell_151 σ g (nI k) (nI c) (nI (x + y)) (f_X8_cast (X.1 (s + 1 + 3) (9 * k + c)) (nI q)) (f_X8_cast (X.1 (L + 3) (9 * k + c)) (nI q)) (f_X8_cast nR (nI q)) X)) := by
    intro x y hx hy
    unfold f_X2_mergeCell_50
    obtain ⟨s0, s1, s2, s3, s4, s5, s6, s7, s8, s9, s10, s11, s12, s13, s14, s15, s16, s17, s18⟩ := hs
    simp (disch := first | assumption | omega) only [litM, nI_add, ldR, eq_self, if_true, Option.bind_some, s0, s1, s2, s3, s_numberAt s8, s_numberAt s9, p2]
    cases f_X2_putMerged σ X g (nI k) (nI c) (f_X8_cast (X.1 (s + 1 + 3) (9 * k + c)) (nI q)) (nI 0) <;> rfl
  have e151 : ∀ (Z : Mx) (x : Nat) (v l r w : Int32), x < 3 → Z.1 (g + 1) = X.1 (g + 1) → (w = if x = 1 then l else if x = 2 then r else v) → f_X2_mergeCell_151 σ g (nI k) (nI c) (nI x) v l r Z = some (sI (sI Z (g + 4) (9 * k + c) w) (g + 5) (9 * k + c) (nI x)) := by
    intro Z x v l r w hx hZ hw
    rw [hw]
    unfold f_X2_mergeCell_151 f_X2_mergeCell_176
    rw [litM, if_neg (by rw [n_eq] <;> omega), s_putMerged hg hk hc (by rw [hZ]; exact e1) (by rw [hZ]; exact e0)]
    rcases (show x = 0 ∨ x = 1 ∨ x = 2 by omega) with rfl | rfl | rfl <;> rfl
  have e158 : ∀ (Z : Mx) (x : Nat) (l r : Int32), f_X10_mergesCell_158 τ m (nI (9 * k + c)) l r Z (nI x) = (if nI 0 < nI x then (if nI x = nI 2 then some (sI (sI Z (m + 8) (9 * k + c) (nI x)) (m + 7) (9 * k + c) r) else some (sI (sI Z (m + 8) (9 * k + c) (nI x)) (m + 7) (9 * k + c) l)) else some Z) := by
    intro Z x l r
    obtain ⟨m0, m1, m2, m3, m4, m5, m6, m7, m8, m9, m10, m11, m12, m13, m14, m15, m16, m17, mq1, mq2, mq3, mq4, mq5, mq6, mq7, mq8, mq9, mq10, mq11, mq12, mq13, mq14, mq15, mq16, mq17, mn1, mn2, mn3, mn4, mn5, mn6, mn7, mn8, mn9, mn10, mn11, mn12, mn13, mn14, mn15, mn16, mn17⟩ := hm
    simp (disch := first | assumption | omega) only [f_X10_mergesCell_158, litM, grd_t, grd_T, ldI_t, stI_t, ldA_t, stA_t, lenA_t, n_lt_t, n_lt_f, n_le_t, n_le_f, n_eq_t, n_eq_f, if_true, if_false, nI_add, nI_mul, bt_d, bI_z, bI_o, Option.bind_some, Bool.true_eq_false, Bool.false_eq_true, ldR, eq_self, if_true, Option.bind_some, m0, m7, m8]
  have fin2 : ∀ (Z W : Mx) (n1 : Nat) (x : Nat) (v : Int32) (Q : Nat → Prop), (∀ j, j < 316 → Q j → j < 56 + (9 * k + c + 1)) → n1 ≤ 39 + (9 * k + c + 1) → MI (9 * k + c) Q n1 ch Lh Rh X0 Z g Y0 W m → W.1 m 20 = Y.1 m 20 → W.1 m 21 = Y.1 m 21 →
      ∃ n2, n2 ≤ 39 + (9 * k + c + 1) ∧ MI (9 * k + c + 1) (fun j => j < 56 + (9 * k + c + 1)) n2 ch Lh Rh X0 (sI (sI Z (g + 4) (9 * k + c) v) (g + 5) (9 * k + c) (nI x)) g Y0 (sI (sI W (m + 8) (9 * k + c) (nI x)) (m + 7) (9 * k + c) v) m ∧ (sI (sI W (m + 8) (9 * k + c) (nI x)) (m + 7) (9 * k + c) v).1 m 20 = Y.1 m 20 ∧ (sI (sI W (m + 8) (9 * k + c) (nI x)) (m + 7) (9 * k + c) v).1 m 21 = Y.1 m 21 := by
    intro Z W n1 x v Q hQ hn1 hMI w20 w21
    have a20 : (sI (sI W (m + 8) (9 * k + c) (nI x)) (m + 7) (9 * k + c) v).1 m 20 = Y.1 m 20 := by rw [sI_na (by omega), sI_na (by omega)]; exact w20
    have a21 : (sI (sI W (m + 8) (9 * k + c) (nI x)) (m + 7) (9 * k + c) v).1 m 21 = Y.1 m 21 := by rw [sI_na (by omega), sI_na (by omega)]; exact w21
    have hp := ((hMI.mono hQ).pre (v := nI x) (j := 9 * k + c) (Nat.le_refl _) (a := m + 8) (Or.inr rfl)).pre (v := v) (j := 9 * k + c) (Nat.le_refl _) (a := m + 7) (Or.inl rfl)
    exact ⟨n1, hn1, hp.fin hk hc (by rw [a21]; exact hbk) (by rw [a20]; exact hbc) sI_eq (by rw [sI_na (by omega), sI_eq]), a20, a21⟩
  rw [ec, em]
  cases hL : cChg X.1 (s + 1) L k c with
  | false =>
    cases hR : cR with
    | false =>
      rw [if_pos bI_f, if_pos bI_f, if_pos bI_f, if_pos bI_f, e50 0 0 (by omega) (by omega), if_pos (by decide), s_putMerged hg hk hc e1 e0]
      exact ⟨_, Y1, n, rfl, rfl, by omega, (hM1.mono (fun j _ q => by omega)).fin hk hc (by rw [y21]; exact hbk) (by rw [y20]; exact hbc) y7 y8, y20, y21⟩
    | true =>
      obtain ⟨r, hr, s1, s2⟩ := p4 hR
      rw [if_pos bI_f, if_neg (by decide), if_pos bI_f, if_neg (by decide), e50 0 2 (by omega) (by omega), if_neg (by decide), if_neg (by decide), e151 X 2 (f_X8_cast (X.1 (s + 1 + 3) (9 * k + c)) (nI q)) (f_X8_cast (X.1 (L + 3) (9 * k + c)) (nI q)) (f_X8_cast nR (nI q)) (f_X8_cast nR (nI q)) (by omega) rfl rfl]
      obtain ⟨n2, z1, z2, z3, z4⟩ := fin2 X Y1 n 2 (f_X8_cast nR (nI q)) _ (fun j _ q => by omega) (by omega) hM1 y20 y21
      refine ⟨_, _, n2, rfl, ?_, z1, z2, z3, z4⟩
      have := es 1 r nR (by omega) hr s1 s2
      simp (disch := first | assumption | omega) only [f_X10_mergesCell_70, f_X10_mergesCell_89, f_X10_mergesCell_110, f_X10_mergesCell_148, litM, grd_t, grd_T, ldI_t, stI_t, ldA_t, stA_t, lenA_t, n_lt_t, n_lt_f, n_le_t, n_le_f, n_eq_t, n_eq_f, if_true, if_false, nI_add, nI_mul, bt_d, bI_z, bI_o, Option.bind_some, Bool.true_eq_false, Bool.false_eq_true, bI_f, bI_t, this, e158]
  | true =>
    obtain ⟨sl1, sl2⟩ := l2 hL
    have esl := es 0 c _ (by omega) hc sl1 sl2
    cases hR : cR with
    | false =>
      rw [if_neg (by decide), if_pos bI_f, if_neg (by decide), e50 1 0 (by omega) (by omega), if_neg (by decide), if_neg (by decide), e151 X 1 (f_X8_cast (X.1 (s + 1 + 3) (9 * k + c)) (nI q)) (f_X8_cast (X.1 (L + 3) (9 * k + c)) (nI q)) (f_X8_cast nR (nI q)) (f_X8_cast (X.1 (L + 3) (9 * k + c)) (nI q)) (by omega) rfl rfl]
      obtain ⟨n2, z1, z2, z3, z4⟩ := fin2 X Y1 n 1 (f_X8_cast (X.1 (L + 3) (9 * k + c)) (nI q)) _ (fun j _ q => by omega) (by omega) hM1 y20 y21
      refine ⟨_, _, n2, rfl, ?_, z1, z2, z3, z4⟩
      simp (disch := first | assumption | omega) only [f_X10_mergesCell_70, f_X10_mergesCell_89, f_X10_mergesCell_110, f_X10_mergesCell_148, litM, grd_t, grd_T, ldI_t, stI_t, ldA_t, stA_t, lenA_t, n_lt_t, n_lt_f, n_le_t, n_le_f, n_eq_t, n_eq_f, if_true, if_false, nI_add, nI_mul, bt_d, bI_z, bI_o, Option.bind_some, Bool.true_eq_false, Bool.false_eq_true, bI_f, bI_t, esl, e158]
    | true =>
      obtain ⟨r, hr, s1, s2⟩ := p4 hR
      have esr := es 1 r nR (by omega) hr s1 s2
      rw [if_neg (by decide), if_neg (by decide), if_neg (by decide), e50 1 2 (by omega) (by omega), if_neg (by decide), if_pos (by decide)]
      have e70 : f_X10_mergesCell_70 τ m (nI b) (nI k) (nI c) (nI (9 * k + c)) (bI true) (bI true) Y1 = (if f_X8_cast (X.1 (L + 3) (9 * k + c)) (nI q) = f_X8_cast nR (nI q) then f_X10_mergesCell_158 τ m (nI (9 * k + c)) (f_X8_cast (X.1 (L + 3) (9 * k + c)) (nI q)) (f_X8_cast nR (nI q)) Y1 (nI 3) else bnd2 (f_X10_comesUp τ Y1 m (nI b) (nI 5) (nI k) (nI c) (f_X8_cast (X.1 (L + 3) (9 * k + c)) (nI q)) (f_X8_cast nR (nI q))) fun v3 X2 => f_X10_mergesCell_158 τ m (nI (9 * k + c)) (f_X8_cast (X.1 (L + 3) (9 * k + c)) (nI q)) (f_X8_cast nR (nI q)) X2 v3) := by
        simp (disch := first | assumption | omega) only [f_X10_mergesCell_70, f_X10_mergesCell_89, f_X10_mergesCell_110, f_X10_mergesCell_148, litM, grd_t, grd_T, ldI_t, stI_t, ldA_t, stA_t, lenA_t, n_lt_t, n_lt_f, n_le_t, n_le_f, n_eq_t, n_eq_f, if_true, if_false, nI_add, nI_mul, bt_d, bI_z, bI_o, Option.bind_some, Bool.true_eq_false, Bool.false_eq_true, bI_t, esl, esr]
      rw [e70]
      by_cases elr : f_X8_cast (X.1 (L + 3) (9 * k + c)) (nI q) = f_X8_cast nR (nI q)
      · rw [if_pos elr, if_pos elr, e158, if_pos (by decide), if_neg (by decide)]
        obtain ⟨n2, z1, z2, z3, z4⟩ := fin2 X Y1 n 3 (f_X8_cast (X.1 (L + 3) (9 * k + c)) (nI q)) _ (fun j _ q => by omega) (by omega) hM1 y20 y21
        refine ⟨_, _, n2, ?_, rfl, z1, z2, z3, z4⟩
        unfold f_X2_mergeCell_151 f_X2_mergeCell_176
        rw [litM, if_pos (by decide), s_putMerged hg hk hc e1 e0]
        rfl
      · rw [if_neg elr, if_neg elr]
        obtain ⟨X2, Y2, n1, q1, q2, q3, q4, q5⟩ := ask_rel (l := f_X8_cast (X.1 (L + 3) (9 * k + c)) (nI q)) (r := f_X8_cast nR (nI q)) hg hs hm hb (show okI (56 + (9 * k + c)) from ⟨by omega, by omega⟩) (id_cell k hk c hc) (fun q => by omega) (by omega) (hch.trans xC.symm) (by rw [y3]; exact (hS.2.2.2.2.2.2.2.2.2 _ (by omega)).1) hM1
        have z20 : Y2.1 m 20 = Y.1 m 20 := (q5.2.2.2.2 20 (by omega)).trans y20
        have z21 : Y2.1 m 21 = Y.1 m 21 := (q5.2.2.2.2 21 (by omega)).trans y21
        have hX1 : X2.1 (g + 1) = X.1 (g + 1) := q5.2.1 _ (by omega) (by omega) (by omega) (by omega)
        have hQ : ∀ j, j < 316 → (j < 56 + (9 * k + c) ∨ j = 56 + (9 * k + c)) → j < 56 + (9 * k + c + 1) := fun j _ q => by omega
        rw [q1, q2]
        simp only [bnd2]
        have keep : f_J9_max_7cf53 (nI 0) (X.1 (s + 16) (56 + (9 * k + c))) = nI 0 → ¬ nI 0 < X.1 (s + 16) (56 + (9 * k + c)) → ∃ X1 Y3 n1, f_X2_mergeCell_151 σ g (nI k) (nI c) (f_J9_max_7cf53 (nI 0) (X.1 (s + 16) (56 + (9 * k + c)))) (f_X8_cast (X.1 (s + 1 + 3) (9 * k + c)) (nI q)) (f_X8_cast (X.1 (L + 3) (9 * k + c)) (nI q)) (f_X8_cast nR (nI q)) X2 = some X1 ∧ f_X10_mergesCell_158 τ m (nI (9 * k + c)) (f_X8_cast (X.1 (L + 3) (9 * k + c)) (nI q)) (f_X8_cast nR (nI q)) Y2 (X.1 (s + 16) (56 + (9 * k + c))) = some Y3 ∧ n1 ≤ 39 + (9 * k + c + 1) ∧ MI (9 * k + c + 1) (fun j => j < 56 + (9 * k + c + 1)) n1 ch Lh Rh X0 X1 g Y0 Y3 m ∧ Y3.1 m 20 = Y.1 m 20 ∧ Y3.1 m 21 = Y.1 m 21 := by
          intro h1 h2
          rw [h1, e151 X2 0 (f_X8_cast (X.1 (s + 1 + 3) (9 * k + c)) (nI q)) (f_X8_cast (X.1 (L + 3) (9 * k + c)) (nI q)) (f_X8_cast nR (nI q)) (f_X8_cast (X.1 (s + 1 + 3) (9 * k + c)) (nI q)) (by omega) hX1 rfl]
          refine ⟨_, Y2, n1, rfl, ?_, by omega, (q4.mono hQ).fin hk hc (by rw [z21]; exact hbk) (by rw [z20]; exact hbc) (by rw [q5.2.2.2.1 (m + 7) (by omega) (by omega) (by omega)]; exact y7) (by rw [q5.2.2.2.1 (m + 8) (by omega) (by omega) (by omega)]; exact y8), z20, z21⟩
          unfold f_X10_mergesCell_158
          exact if_neg h2
        rcases (hS.2.2.2.2.2.2.2.2.2 (56 + (9 * k + c)) (by omega)).2.1 with v | v | v | v
        · exact keep (by rw [v]; decide) (by rw [v]; decide)
        · exact keep (by rw [v]; decide) (by rw [v]; decide)
        · rw [v, show f_J9_max_7cf53 (nI 0) (nI 1) = nI 1 from by decide, e151 X2 1 (f_X8_cast (X.1 (s + 1 + 3) (9 * k + c)) (nI q)) (f_X8_cast (X.1 (L + 3) (9 * k + c)) (nI q)) (f_X8_cast nR (nI q)) (f_X8_cast (X.1 (L + 3) (9 * k + c)) (nI q)) (by omega) hX1 rfl, e158, if_pos (by decide), if_neg (by decide)]
          obtain ⟨n2, y1', y2', y3', y4'⟩ := fin2 X2 Y2 n1 1 (f_X8_cast (X.1 (L + 3) (9 * k + c)) (nI q)) _ hQ (by omega) q4 z20 z21
          exact ⟨_, _, n2, rfl, rfl, y1', y2', y3', y4'⟩
        · rw [v, show f_J9_max_7cf53 (nI 0) (nI 2) = nI 2 from by decide, e151 X2 2 (f_X8_cast (X.1 (s + 1 + 3) (9 * k + c)) (nI q)) (f_X8_cast (X.1 (L + 3) (9 * k + c)) (nI q)) (f_X8_cast nR (nI q)) (f_X8_cast nR (nI q)) (by omega) hX1 rfl, e158, if_pos (by decide), if_pos (by decide)]
          obtain ⟨n2, y1', y2', y3', y4'⟩ := fin2 X2 Y2 n1 2 (f_X8_cast nR (nI q)) _ hQ (by omega) q4 z20 z21
          exact ⟨_, _, n2, rfl, rfl, y1', y2', y3', y4'⟩
