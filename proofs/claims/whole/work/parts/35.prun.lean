theorem dem_row {σ τ : Sh} {n g m s L R b d k kd f q N M : Nat} {ch : Nat → Int32} {Lh Rh : Int32} {X0 X Y0 Y : Mx} (hg : mgOK σ g) (hs : stOK σ s L R) (hm : mdOK τ m) (hb : b ≤ 931) (hdj : s + 16 < g ∨ g + 9 < s) (hS0 : StR X0.1 s L R (Y0.1 (m + 3)) b) (hch : ch = X0.1 (s + 16)) (hd : d < 4) (hk : k < 20) (hkd : kd < 3) (hf : f < 9) (hq : q < 9) (w1 : Y0.1 (m + 3) (b + 601 + d) = nI kd) (w2 : Y0.1 (m + 3) (b + 605 + d) = nI f) (w3 : kd = 2 → Y0.1 (m + 3) (b + 609 + d) = nI q) (hbf : bt (Y.1 m 20) f = true) (hbq : bt (Y.1 m 20) q = true) (h : MI 180 (fun j => j < 236 + (20 * d + k)) n ch Lh Rh X0 X g Y0 Y m) (hn : n ≤ 219 + (20 * d + k)) :
    ∃ X1 Y1, f_X2_checkDemand_51 σ g s (nI d) (nI kd) (nI f) (nI q) (N + 1) X (nI k) = f_X2_checkDemand_51 σ g s (nI d) (nI kd) (nI f) (nI q) N X1 (nI (k + 1)) ∧ f_X10_demands_79 τ m (nI b) (nI d) (nI kd) (nI q) (M + 1) Y (nI k) = f_X10_demands_79 τ m (nI b) (nI d) (nI kd) (nI q) M Y1 (nI (k + 1)) ∧ ∃ n1, n1 ≤ 219 + (20 * d + (k + 1)) ∧ MI 180 (fun j => j < 236 + (20 * d + (k + 1))) n1 ch Lh Rh X0 X1 g Y0 Y1 m ∧ Y1.1 m 20 = Y.1 m 20 := by
  have hS := h.st hs hdj hS0
  have hmono := h.mono (Q := fun j => j < 236 + (20 * d + (k + 1))) (fun j _ q => by omega)
  have xC : X.1 (s + 16) = X0.1 (s + 16) := h.1.2 _ (by omega)
  have y3 : Y.1 (m + 3) = Y0.1 (m + 3) := h.2.1.2.1 _ (by omega) (by omega)
  have hg' := hg
  have hm' := hm
  have m0 := hm.1
  have hx1 : X.1 (g + 1) 1 = Y.1 m 21 := h.2.2.1.2.1
  have hx0 : X.1 (g + 1) 0 = Y.1 m 20 := h.2.2.1.1
  rw [f_X2_checkDemand_51, f_X10_demands_79]
  cases ek : bt (Y.1 m 21) k with
  | false =>
    refine ⟨X, Y, ?_, ?_, n, by omega, hmono, rfl⟩
    · simp (disch := first | assumption | omega) only [litM, grd_t, grd_T, ldI_t, stI_t, ldA_t, stA_t, lenA_t, n_lt_t, n_lt_f, n_le_t, n_le_f, n_eq_t, n_eq_f, if_true, if_false, nI_add, nI_mul, bt_d, bI_z, bI_o, Option.bind_some, Bool.true_eq_false, Bool.false_eq_true, ldR_g hg', s_hasRow hg.2.2.2.2.2.2.2.1, inB_n, hx1, ek, f_X2_checkDemand_145]
    · simp (disch := first | assumption | omega) only [litM, grd_t, grd_T, ldI_t, stI_t, ldA_t, stA_t, lenA_t, n_lt_t, n_lt_f, n_le_t, n_le_f, n_eq_t, n_eq_f, if_true, if_false, nI_add, nI_mul, bt_d, bI_z, bI_o, Option.bind_some, Bool.true_eq_false, Bool.false_eq_true, ek, f_X10_demands_194]
  | true =>
    obtain ⟨v, v1, v2⟩ := broken_rel (q := q) hg hm hb hd hk hkd hf hq (by rw [y3]; exact w1) (by rw [y3]; exact w2) (by rw [y3]; exact w3) ek hbf hbq h
    cases v with
    | false =>
      refine ⟨X, Y, ?_, ?_, n, by omega, hmono, rfl⟩
      · simp (disch := first | assumption | omega) only [litM, grd_t, grd_T, ldI_t, stI_t, ldA_t, stA_t, lenA_t, n_lt_t, n_lt_f, n_le_t, n_le_f, n_eq_t, n_eq_f, if_true, if_false, nI_add, nI_mul, bt_d, bI_z, bI_o, Option.bind_some, Bool.true_eq_false, Bool.false_eq_true, ldR_g hg', s_hasRow hg.2.2.2.2.2.2.2.1, inB_n, hx1, ek, v1, f_X2_checkDemand_145]
      · simp (disch := first | assumption | omega) only [litM, grd_t, grd_T, ldI_t, stI_t, ldA_t, stA_t, lenA_t, n_lt_t, n_lt_f, n_le_t, n_le_f, n_eq_t, n_eq_f, if_true, if_false, nI_add, nI_mul, bt_d, bI_z, bI_o, Option.bind_some, Bool.true_eq_false, Bool.false_eq_true, ek, v2, f_X10_demands_194]
    | true =>
      obtain ⟨X1, Y1, n1, q1, q2, q3, q4, q5⟩ := ask_rel (l := -(nI 1)) (r := -(nI 1)) hg hs hm hb (show okI (236 + (20 * d + k)) from ⟨by omega, by omega⟩) (id_dem d hd k hk) (fun q => by omega) (by omega) (hch.trans xC.symm) (hS.2.2.2.2.2.2.2.2.2 _ (by omega)).1 h
      have q4 := q4.mono (Q := fun j => j < 236 + (20 * d + (k + 1))) (fun j _ q => by rcases q with q | q <;> omega)
      have h20 : Y1.1 m 20 = Y.1 m 20 := q5.2.2.2.2 20 (by omega)
      have h21 : Y1.1 m 21 = Y.1 m 21 := q5.2.2.2.2 21 (by omega)
      have ec : f_X2_checkDemand_51 σ g s (nI d) (nI kd) (nI f) (nI q) (N + 1) X (nI k) = (if X.1 (s + 16) (236 + (20 * d + k)) = nI 0 then (if nI kd = nI 1 then f_X2_checkDemand_123 (f_X2_checkDemand_51 σ g s (nI d) (nI kd) (nI f) (nI q) N) σ g s (nI d) (nI kd) (nI f) (nI q) (nI k) X1 g (nI k) (nI q) (nI 0) else f_X2_checkDemand_123 (f_X2_checkDemand_51 σ g s (nI d) (nI kd) (nI f) (nI q) N) σ g s (nI d) (nI kd) (nI f) (nI q) (nI k) X1 g (nI k) (nI q) (nI 9999)) else (if X.1 (s + 16) (236 + (20 * d + k)) = nI 1 then (f_X6_takeRow σ X1 (g + 1) (nI k)).bind fun X11 => f_X2_checkDemand_51 σ g s (nI d) (nI kd) (nI f) (nI q) N X11 (nI (k + 1)) else f_X2_checkDemand_51 σ g s (nI d) (nI kd) (nI f) (nI q) N X1 (nI (k + 1)))) := by
        rw [f_X2_checkDemand_51]
        simp (disch := first | assumption | omega) only [litM, grd_t, grd_T, ldI_t, stI_t, ldA_t, stA_t, lenA_t, n_lt_t, n_lt_f, n_le_t, n_le_f, n_eq_t, n_eq_f, if_true, if_false, nI_add, nI_mul, bt_d, bI_z, bI_o, Option.bind_some, Bool.true_eq_false, Bool.false_eq_true, ldR_g hg', s_hasRow hg.2.2.2.2.2.2.2.1, inB_n, hx1, ek, v1, q1, bnd2, f_X2_checkDemand_145]
      have em : f_X10_demands_79 τ m (nI b) (nI d) (nI kd) (nI q) (M + 1) Y (nI k) = (if X.1 (s + 16) (236 + (20 * d + k)) = nI 1 then f_X10_demands_147 (f_X10_demands_79 τ m (nI b) (nI d) (nI kd) (nI q) M) τ m (nI b) (nI d) (nI kd) (nI q) (nI k) (X.1 (s + 16) (236 + (20 * d + k))) (sI Y1 m 21 (Y1.1 m 21 &&& (((1 : Int32) <<< (nI k &&& 31)) ^^^ (-1)))) else f_X10_demands_147 (f_X10_demands_79 τ m (nI b) (nI d) (nI kd) (nI q) M) τ m (nI b) (nI d) (nI kd) (nI q) (nI k) (X.1 (s + 16) (236 + (20 * d + k))) Y1) := by
        rw [f_X10_demands_79]
        simp (disch := first | assumption | omega) only [litM, grd_t, grd_T, ldI_t, stI_t, ldA_t, stA_t, lenA_t, n_lt_t, n_lt_f, n_le_t, n_le_f, n_eq_t, n_eq_f, if_true, if_false, nI_add, nI_mul, bt_d, bI_z, bI_o, Option.bind_some, Bool.true_eq_false, Bool.false_eq_true, ek, v2, q2, bnd2]
      rw [f_X2_checkDemand_51] at ec
      rw [f_X10_demands_79] at em
      rw [ec, em]
      by_cases c0 : X.1 (s + 16) (236 + (20 * d + k)) = nI 0
      · rw [c0]
        have hbk1 : bt (X1.1 (g + 1) 1) k = true := by rw [q4.2.2.1.2.1, h21]; exact ek
        have hbq1 : bt (X1.1 (g + 1) 0) q = true := by rw [q4.2.2.1.1, h20]; exact hbq
        have go : ∀ v, (sI (sI Y1 (m + 7) (9 * k + q) v) (m + 8) (9 * k + q) (nI 4)).1 m 20 = Y.1 m 20 := fun v => by rw [sI_na (by omega), sI_na (by omega)]; exact h20
        by_cases c1 : kd = 1
        · refine ⟨_, _, ?_, ?_, n1, by omega, q4.setC (v := nI 0) (w := nI 4) hk hq (by rw [h21]; exact ek) (by rw [h20]; exact hbq), go _⟩
          · simp (disch := first | assumption | omega) only [litM, grd_t, grd_T, ldI_t, stI_t, ldA_t, stA_t, lenA_t, n_lt_t, n_lt_f, n_le_t, n_le_f, n_eq_t, n_eq_f, if_true, if_false, nI_add, nI_mul, bt_d, bI_z, bI_o, Option.bind_some, Bool.true_eq_false, Bool.false_eq_true, f_X2_checkDemand_123, s_putMerged hg', f_X2_checkDemand_145]
          · obtain ⟨m0, m1, m2, m3, m4, m5, m6, m7, m8, m9, m10, m11, m12, m13, m14, m15, m16, m17, mq1, mq2, mq3, mq4, mq5, mq6, mq7, mq8, mq9, mq10, mq11, mq12, mq13, mq14, mq15, mq16, mq17, mn1, mn2, mn3, mn4, mn5, mn6, mn7, mn8, mn9, mn10, mn11, mn12, mn13, mn14, mn15, mn16, mn17⟩ := hm
            simp (disch := first | assumption | omega) only [litM, grd_t, grd_T, ldI_t, stI_t, ldA_t, stA_t, lenA_t, n_lt_t, n_lt_f, n_le_t, n_le_f, n_eq_t, n_eq_f, if_true, if_false, nI_add, nI_mul, bt_d, bI_z, bI_o, Option.bind_some, Bool.true_eq_false, Bool.false_eq_true, ldR, eq_self, if_true, Option.bind_some, m0, m7, m8, f_X10_demands_147, f_X10_demands_179, f_X10_demands_194]
        · refine ⟨_, _, ?_, ?_, n1, by omega, q4.setC (v := nI 9999) (w := nI 4) hk hq (by rw [h21]; exact ek) (by rw [h20]; exact hbq), go _⟩
          · simp (disch := first | assumption | omega) only [litM, grd_t, grd_T, ldI_t, stI_t, ldA_t, stA_t, lenA_t, n_lt_t, n_lt_f, n_le_t, n_le_f, n_eq_t, n_eq_f, if_true, if_false, nI_add, nI_mul, bt_d, bI_z, bI_o, Option.bind_some, Bool.true_eq_false, Bool.false_eq_true, f_X2_checkDemand_123, s_putMerged hg', f_X2_checkDemand_145]
          · obtain ⟨m0, m1, m2, m3, m4, m5, m6, m7, m8, m9, m10, m11, m12, m13, m14, m15, m16, m17, mq1, mq2, mq3, mq4, mq5, mq6, mq7, mq8, mq9, mq10, mq11, mq12, mq13, mq14, mq15, mq16, mq17, mn1, mn2, mn3, mn4, mn5, mn6, mn7, mn8, mn9, mn10, mn11, mn12, mn13, mn14, mn15, mn16, mn17⟩ := hm
            simp (disch := first | assumption | omega) only [litM, grd_t, grd_T, ldI_t, stI_t, ldA_t, stA_t, lenA_t, n_lt_t, n_lt_f, n_le_t, n_le_f, n_eq_t, n_eq_f, if_true, if_false, nI_add, nI_mul, bt_d, bI_z, bI_o, Option.bind_some, Bool.true_eq_false, Bool.false_eq_true, ldR, eq_self, if_true, Option.bind_some, m0, m7, m8, f_X10_demands_147, f_X10_demands_179, f_X10_demands_194]
      · rw [if_neg c0]
        by_cases c1 : X.1 (s + 16) (236 + (20 * d + k)) = nI 1
        · rw [if_pos c1, if_pos c1, c1]
          have hbk1 : bt (X1.1 (g + 1) 1) k = true := by rw [q4.2.2.1.2.1, h21]; exact ek
          refine ⟨_, _, ?_, ?_, n1, by omega, q4.takeR hk, ?_⟩
          · rw [s_takeRow hg.2.2.2.2.2.2.2.1 hk hbk1]; rfl
          · simp (disch := first | assumption | omega) only [litM, grd_t, grd_T, ldI_t, stI_t, ldA_t, stA_t, lenA_t, n_lt_t, n_lt_f, n_le_t, n_le_f, n_eq_t, n_eq_f, if_true, if_false, nI_add, nI_mul, bt_d, bI_z, bI_o, Option.bind_some, Bool.true_eq_false, Bool.false_eq_true, f_X10_demands_147, f_X10_demands_194]
          · rw [sI_nk (by omega)]; exact h20
        · rw [if_neg c1, if_neg c1]
          refine ⟨X1, Y1, rfl, ?_, n1, by omega, q4, h20⟩
          unfold f_X10_demands_147 f_X10_demands_194
          simp only [litM, c0, if_false, nI_add]
theorem dem_rel {σ τ : Sh} {n g m s L R b d kd f q : Nat} {ch : Nat → Int32} {Lh Rh : Int32} {X0 X Y0 Y : Mx} (hg : mgOK σ g) (hs : stOK σ s L R) (hm : mdOK τ m) (hb : b ≤ 931) (hdj : s + 16 < g ∨ g + 9 < s) (hS0 : StR X0.1 s L R (Y0.1 (m + 3)) b) (hch : ch = X0.1 (s + 16)) (hd : d < 4) (hkd : kd < 3) (hf : f < 9) (hq : q < 9) (x1 : X0.1 (s + 13) d = nI kd) (x2 : X0.1 (s + 14) d = nI f) (x3 : X0.1 (s + 15) d = nI q) (w1 : Y0.1 (m + 3) (b + 601 + d) = nI kd) (w2 : Y0.1 (m + 3) (b + 605 + d) = nI f) (w3 : kd = 2 → Y0.1 (m + 3) (b + 609 + d) = nI q) (w4 : kd ≠ 2 → q = f) (h : MI 180 (fun j => j < 236 + 20 * d) n ch Lh Rh X0 X g Y0 Y m) (hn : n ≤ 219 + 20 * d) :
    ∃ X1 Y1 n1, f_X2_checkDemand σ X g s (nI d) = some X1 ∧ f_X10_demands τ Y m (nI b) (nI d) = some Y1 ∧ n1 ≤ 219 + 20 * (d + 1) ∧ MI 180 (fun j => j < 236 + 20 * (d + 1)) n1 ch Lh Rh X0 X1 g Y0 Y1 m := by
  have hmono := h.mono (Q := fun j => j < 236 + 20 * (d + 1)) (fun j _ q => by omega)
  have y3 : Y.1 (m + 3) = Y0.1 (m + 3) := h.2.1.2.1 _ (by omega) (by omega)
  have a13 : X.1 (s + 13) = X0.1 (s + 13) := h.1.2 _ (by omega)
  have a14 : X.1 (s + 14) = X0.1 (s + 14) := h.1.2 _ (by omega)
  have a15 : X.1 (s + 15) = X0.1 (s + 15) := h.1.2 _ (by omega)
  have hx0 : X.1 (g + 1) 0 = Y.1 m 20 := h.2.2.1.1
  have hg' := hg
  have hm' := hm
  have ec : f_X2_checkDemand σ X g s (nI d) = (if bt (Y.1 m 20) f = true then (if bt (Y.1 m 20) q = true then f_X2_checkDemand_51 σ g s (nI d) (nI kd) (nI f) (nI q) FU X (nI 0) else some X) else some X) := by
    unfold f_X2_checkDemand
    obtain ⟨s0, s1, s2, s3, s4, s5, s6, s7, s8, s9, s10, s11, s12, s13, s14, s15, s16, s17, s18⟩ := hs
    obtain ⟨g0, g1, g2, g3, g4, g5, g6, gT, k5, l5, k6, l6, k7, l7, k8, l8, k9, l9⟩ := hg
    simp (disch := first | assumption | omega) only [litM, grd_t, grd_T, ldI_t, stI_t, ldA_t, stA_t, lenA_t, n_lt_t, n_lt_f, n_le_t, n_le_f, n_eq_t, n_eq_f, if_true, if_false, nI_add, nI_mul, bt_d, bI_z, bI_o, Option.bind_some, Bool.true_eq_false, Bool.false_eq_true, ldR, eq_self, if_true, Option.bind_some, s0, s4, s5, s6, g0, g1, s_hasColumn gT, inB_n, hx0, a13, a14, a15, x1, x2, x3, ifF]
  have e49 : f_X10_demands τ Y m (nI b) (nI d) = f_X10_demands_49 τ m (nI b) (nI d) (nI kd) (nI f) Y (nI q) := by
    unfold f_X10_demands
    obtain ⟨m0, m1, m2, m3, m4, m5, m6, m7, m8, m9, m10, m11, m12, m13, m14, m15, m16, m17, mq1, mq2, mq3, mq4, mq5, mq6, mq7, mq8, mq9, mq10, mq11, mq12, mq13, mq14, mq15, mq16, mq17, mn1, mn2, mn3, mn4, mn5, mn6, mn7, mn8, mn9, mn10, mn11, mn12, mn13, mn14, mn15, mn16, mn17⟩ := hm
    by_cases c2 : kd = 2
    · have w3 := w3 c2
      simp (disch := first | assumption | omega) only [litM, grd_t, grd_T, ldI_t, stI_t, ldA_t, stA_t, lenA_t, n_lt_t, n_lt_f, n_le_t, n_le_f, n_eq_t, n_eq_f, if_true, if_false, nI_add, nI_mul, bt_d, bI_z, bI_o, Option.bind_some, Bool.true_eq_false, Bool.false_eq_true, ldR, eq_self, if_true, Option.bind_some, m0, m3, y3, w1, w2, w3]
    · have := w4 c2
      subst this
      simp (disch := first | assumption | omega) only [litM, grd_t, grd_T, ldI_t, stI_t, ldA_t, stA_t, lenA_t, n_lt_t, n_lt_f, n_le_t, n_le_f, n_eq_t, n_eq_f, if_true, if_false, nI_add, nI_mul, bt_d, bI_z, bI_o, Option.bind_some, Bool.true_eq_false, Bool.false_eq_true, ldR, eq_self, if_true, Option.bind_some, m0, m3, y3, w1, w2]
  have em : f_X10_demands τ Y m (nI b) (nI d) = (if bt (Y.1 m 20) f = true then (if bt (Y.1 m 20) q = true then f_X10_demands_79 τ m (nI b) (nI d) (nI kd) (nI q) FU Y (nI 0) else some Y) else some Y) := by
    rw [e49]
    have m0 := hm.1
    unfold f_X10_demands_49
    simp (disch := first | assumption | omega) only [litM, grd_t, grd_T, ldI_t, stI_t, ldA_t, stA_t, lenA_t, n_lt_t, n_lt_f, n_le_t, n_le_f, n_eq_t, n_eq_f, if_true, if_false, nI_add, nI_mul, bt_d, bI_z, bI_o, Option.bind_some, Bool.true_eq_false, Bool.false_eq_true]
    cases bt (Y.1 m 20) f
    · rfl
    · cases bt (Y.1 m 20) q <;> rfl
  rw [ec, em]
  cases ef : bt (Y.1 m 20) f with
  | false => exact ⟨X, Y, n, rfl, rfl, by omega, hmono⟩
  | true =>
    cases eq : bt (Y.1 m 20) q with
    | false => exact ⟨X, Y, n, rfl, rfl, by omega, hmono⟩
    | true =>
      obtain ⟨N1, M1, X1, Y1, e1, e2, n1, i1, i2, i3⟩ := up_loop2 (fun n s' k => f_X2_checkDemand_51 σ g s (nI d) (nI kd) (nI f) (nI q) n s' (nI k)) (fun n t k => f_X10_demands_79 τ m (nI b) (nI d) (nI kd) (nI q) n t (nI k)) 20 (fun k x y => ∃ n1, n1 ≤ 219 + (20 * d + k) ∧ MI 180 (fun j => j < 236 + (20 * d + k)) n1 ch Lh Rh X0 x g Y0 y m ∧ y.1 m 20 = Y.1 m 20) (by
        intro N1 M1 k x y hk ⟨n1, i1, i2, i3⟩
        obtain ⟨x1', y1', e1, e2, n2, j1, j2, j3⟩ := dem_row (N := N1) (M := M1) (f := f) hg hs hm hb hdj hS0 hch hd hk hkd hf hq w1 w2 w3 (by rw [i3]; exact ef) (by rw [i3]; exact eq) i2 i1
        exact ⟨x1', y1', e1, e2, n2, j1, j2, j3.trans i3⟩) FU FU 0 X Y (by omega) ⟨n, by omega, h, rfl⟩ (by decide) (by decide)
      have e1 : f_X2_checkDemand_51 σ g s (nI d) (nI kd) (nI f) (nI q) FU X (nI 0) = f_X2_checkDemand_51 σ g s (nI d) (nI kd) (nI f) (nI q) (N1 + 1) X1 (nI 20) := e1
      have e2 : f_X10_demands_79 τ m (nI b) (nI d) (nI kd) (nI q) FU Y (nI 0) = f_X10_demands_79 τ m (nI b) (nI d) (nI kd) (nI q) (M1 + 1) Y1 (nI 20) := e2
      refine ⟨X1, Y1, n1, ?_, ?_, by omega, i2.mono (fun j _ q => by omega)⟩
      · rw [if_pos rfl, if_pos rfl, e1, f_X2_checkDemand_51, if_pos (by decide)]
      · rw [if_pos rfl, if_pos rfl, e2, f_X10_demands_79, if_pos (by decide)]
theorem dems_loop {σ τ : Sh} {n g m s L R b : Nat} {ch : Nat → Int32} {Lh Rh : Int32} {X0 X Y0 Y : Mx} (hg : mgOK σ g) (hs : stOK σ s L R) (hm : mdOK τ m) (hb : b ≤ 931) (hdj : s + 16 < g ∨ g + 9 < s) (hS0 : StR X0.1 s L R (Y0.1 (m + 3)) b) (hch : ch = X0.1 (s + 16)) (h : MI 180 (fun j => j < 236) n ch Lh Rh X0 X g Y0 Y m) (hn : n ≤ 219) :
    ∃ X1 Y1 n1, f_X2_run_131 σ g s FU X (nI 0) = some X1 ∧ f_X10_merges_187 τ m (nI b) FU Y (nI 0) = some Y1 ∧ n1 ≤ 299 ∧ MI 180 (fun _ => True) n1 ch Lh Rh X0 X1 g Y0 Y1 m := by
  obtain ⟨d, d1, d2, d3, d4⟩ := hS0.2.2.2.2.2.2.1
  obtain ⟨N1, M1, X1, Y1, e1, e2, n1, i1, i2⟩ := up_loop2 (fun n s' k => f_X2_run_131 σ g s n s' (nI k)) (fun n t k => f_X10_merges_187 τ m (nI b) n t (nI k)) d (fun k x y => ∃ n1, n1 ≤ 219 + 20 * k ∧ MI 180 (fun j => j < 236 + 20 * k) n1 ch Lh Rh X0 x g Y0 y m) (by
    intro N1 M1 k x y hk ⟨n1, i1, i2⟩
    obtain ⟨kd, f, q, c1, c2, c3, c4, c5, c6, c7, c8, c9, c10⟩ := d4 k hk
    obtain ⟨x1, y1, n2, q1, q2, q3, q4⟩ := dem_rel hg hs hm hb hdj hS0 hch (by omega) c1 c2 c3 c4 c5 c6 c7 c8 c9 c10 i2 i1
    have a5 : x.1 s 5 = nI d := by rw [i2.1.2 s (by omega)]; exact d2
    have b5 : y.1 (m + 3) (b + 600) = nI d := by rw [i2.2.1.2.1 (m + 3) (by omega) (by omega)]; exact d3
    refine ⟨x1, y1, ?_, ?_, n2, q3, q4⟩
    · show f_X2_run_131 σ g s (N1 + 1) x (nI k) = f_X2_run_131 σ g s N1 x1 (nI (k + 1))
      rw [f_X2_run_131]
      have s0 := hs.1
      simp (disch := first | assumption | omega) only [litM, grd_t, grd_T, ldI_t, stI_t, ldA_t, stA_t, lenA_t, n_lt_t, n_lt_f, n_le_t, n_le_f, n_eq_t, n_eq_f, if_true, if_false, nI_add, nI_mul, bt_d, bI_z, bI_o, Option.bind_some, Bool.true_eq_false, Bool.false_eq_true, a5, q1]
    · show f_X10_merges_187 τ m (nI b) (M1 + 1) y (nI k) = f_X10_merges_187 τ m (nI b) M1 y1 (nI (k + 1))
      rw [f_X10_merges_187]
      obtain ⟨m0, m1, m2, m3, m4, m5, m6, m7, m8, m9, m10, m11, m12, m13, m14, m15, m16, m17, mq1, mq2, mq3, mq4, mq5, mq6, mq7, mq8, mq9, mq10, mq11, mq12, mq13, mq14, mq15, mq16, mq17, mn1, mn2, mn3, mn4, mn5, mn6, mn7, mn8, mn9, mn10, mn11, mn12, mn13, mn14, mn15, mn16, mn17⟩ := hm
      simp (disch := first | assumption | omega) only [litM, grd_t, grd_T, ldI_t, stI_t, ldA_t, stA_t, lenA_t, n_lt_t, n_lt_f, n_le_t, n_le_f, n_eq_t, n_eq_f, if_true, if_false, nI_add, nI_mul, bt_d, bI_z, bI_o, Option.bind_some, Bool.true_eq_false, Bool.false_eq_true, ldR, eq_self, if_true, Option.bind_some, m0, m3, b5, q2]) FU FU 0 X Y (by omega) ⟨n, by omega, h⟩ (by have : FU = 40000 := rfl; omega) (by have : FU = 40000 := rfl; omega)
  have a5 : X1.1 s 5 = nI d := by rw [i2.1.2 s (by omega)]; exact d2
  have b5 : Y1.1 (m + 3) (b + 600) = nI d := by rw [i2.2.1.2.1 (m + 3) (by omega) (by omega)]; exact d3
  refine ⟨X1, Y1, n1, ?_, ?_, by omega, i2.mono (fun _ _ _ => trivial)⟩
  · refine Eq.trans e1 ?_
    show f_X2_run_131 σ g s (N1 + 1) X1 (nI d) = _
    rw [f_X2_run_131]
    have s0 := hs.1
    simp (disch := first | assumption | omega) only [litM, grd_t, grd_T, ldI_t, stI_t, ldA_t, stA_t, lenA_t, n_lt_t, n_lt_f, n_le_t, n_le_f, n_eq_t, n_eq_f, if_true, if_false, nI_add, nI_mul, bt_d, bI_z, bI_o, Option.bind_some, Bool.true_eq_false, Bool.false_eq_true, a5]
  · refine Eq.trans e2 ?_
    show f_X10_merges_187 τ m (nI b) (M1 + 1) Y1 (nI d) = _
    rw [f_X10_merges_187]
    obtain ⟨m0, m1, m2, m3, m4, m5, m6, m7, m8, m9, m10, m11, m12, m13, m14, m15, m16, m17, mq1, mq2, mq3, mq4, mq5, mq6, mq7, mq8, mq9, mq10, mq11, mq12, mq13, mq14, mq15, mq16, mq17, mn1, mn2, mn3, mn4, mn5, mn6, mn7, mn8, mn9, mn10, mn11, mn12, mn13, mn14, mn15, mn16, mn17⟩ := hm
    simp (disch := first | assumption | omega) only [litM, grd_t, grd_T, ldI_t, stI_t, ldA_t, stA_t, lenA_t, n_lt_t, n_lt_f, n_le_t, n_le_f, n_eq_t, n_eq_f, if_true, if_false, nI_add, nI_mul, bt_d, bI_z, bI_o, Option.bind_some, Bool.true_eq_false, Bool.false_eq_true, ldR, eq_self, if_true, Option.bind_some, m0, m3, b5]
theorem cntB_0 {p : Nat → Bool} {n : Nat} (h : ∀ k, k < n → p k = false) : cntB p n = 0 := by
  induction n with
  | zero => rfl
  | succ n ih => rw [cntB, ih (fun k hk => h k (by omega)), h n (by omega)]; rfl
/-- an array written in order -/
theorem fill_loop {ρ : Type} {F : Nat → Mx → Nat → Option ρ} {X : Mx} {a N : Nat} {f : Nat → Int32} (step : ∀ n s k, k < N → F (n + 1) s k = F n (sI s a k (f k)) (k + 1)) (hN : N < FU) : ∃ n, F FU X 0 = F (n + 1) (wF X a (fun j => if j < N then f j else X.1 a j)) N := by
  obtain ⟨n, s, e, i⟩ := up_loop F N (fun k s => s = wF X a (fun j => if j < k then f j else X.1 a j)) (by
    intro n k s hk hs
    refine ⟨sI s a k (f k), step n s k hk, ?_⟩
    rw [hs, sI_wF, wF_wF]
    congr 1
    funext j
    rw [wF_at]
    by_cases e : j = k
    · subst e; simp
    · simp only [e, if_false]
      by_cases e2 : j < k
      · rw [if_pos e2, if_pos (by omega)]
      · rw [if_neg e2, if_neg (by omega)]) FU 0 X (by omega) (by simp [wF_self]) (by omega)
  exact ⟨n, by rw [e, i]⟩
theorem run_start {σ : Sh} {g s : Nat} {X : Mx} (hg : mgOK σ g) : ∃ Xb, f_X2_run σ X g s = f_X2_run_40 σ g s FU Xb (nI 0) ∧ FrX X Xb g (g + 9) ∧ Xb.1 (g + 1) 0 = nI 0 ∧ Xb.1 (g + 1) 1 = nI 0 ∧ (∀ j, j < 180 → Xb.1 (g + 4) j = nI 9999) ∧ Xb.1 g 2 = nI 0 ∧ Xb.1 g 3 = nI 0 ∧ (∀ j, j < 9 → Xb.1 (g + 9) j = nI j) := by
  obtain ⟨Xa, hXa⟩ : ∃ Z, Z = sI (sI (wF (sI (sI X (g + 1) 0 (nI 0)) (g + 1) 1 (nI 0)) (g + 4) (fun j => if j < 180 then nI 9999 else X.1 (g + 4) j)) g 2 (nI 0)) g 3 (nI 0) := ⟨_, rfl⟩
  obtain ⟨n1, e1⟩ := fill_loop (F := fun n x k => f_X2_run_19 σ g s n x (nI k)) (X := Xa) (a := g + 9) (N := 9) (f := fun j => nI j) (by
    intro n x k hk
    show f_X2_run_19 σ g s (n + 1) x (nI k) = f_X2_run_19 σ g s n (sI x (g + 9) k (nI k)) (nI (k + 1))
    rw [f_X2_run_19]
    obtain ⟨g0, g1, g2, g3, g4, g5, g6, gT, k5, l5, k6, l6, k7, l7, k8, l8, k9, l9⟩ := hg
    simp (disch := first | assumption | omega) only [litM, grd_t, grd_T, ldI_t, stI_t, ldA_t, stA_t, lenA_t, n_lt_t, n_lt_f, n_le_t, n_le_f, n_eq_t, n_eq_f, if_true, if_false, nI_add, nI_mul, bt_d, bI_z, bI_o, Option.bind_some, Bool.true_eq_false, Bool.false_eq_true, ldR, eq_self, if_true, Option.bind_some, g0, g6]) (by decide)
  obtain ⟨Xb, hXb⟩ : ∃ Z, Z = wF Xa (g + 9) (fun j => if j < 9 then nI j else Xa.1 (g + 9) j) := ⟨_, rfl⟩
  rw [← hXb] at e1
  refine ⟨Xb, ?_, ⟨?_, fun q hq => ?_⟩, ?_, ?_, fun j hj => ?_, ?_, ?_, fun j hj => ?_⟩
  · have hcl : f_X6_clear σ X (g + 1) = some (wF (sI (sI X (g + 1) 0 (nI 0)) (g + 1) 1 (nI 0)) (g + 4) (fun j => if j < 180 then nI 9999 else X.1 (g + 4) j)) := s_clear6 (X := X) hg.2.2.2.2.2.2.2.1
    have e4 : f_X2_run_19 σ g s (n1 + 1) Xb (nI 9) = f_X2_run_40 σ g s FU Xb (nI 0) := by
      rw [f_X2_run_19, litM, if_pos (by decide), litM]
    have g0 := hg.1
    rw [← e4, ← e1, hXa]
    simp (disch := first | assumption | omega) only [f_X2_run, ldR_g hg, hcl, litM, grd_t, grd_T, ldI_t, stI_t, ldA_t, stA_t, lenA_t, n_lt_t, n_lt_f, n_le_t, n_le_f, n_eq_t, n_eq_f, if_true, if_false, nI_add, nI_mul, bt_d, bI_z, bI_o, Option.bind_some, Bool.true_eq_false, Bool.false_eq_true]
  · rw [hXb, hXa]; rfl
  · rw [hXb, wF_fn (by omega), hXa, sI_ne (by omega), sI_ne (by omega), wF_fn (by omega), sI_ne (by omega), sI_ne (by omega)]
  · rw [hXb, wF_na (by omega), hXa, sI_na (by omega), sI_na (by omega), wF_na (by omega), sI_nk (by omega), sI_eq]
  · rw [hXb, wF_na (by omega), hXa, sI_na (by omega), sI_na (by omega), wF_na (by omega), sI_eq]
  · rw [hXb, wF_na (by omega), hXa, sI_na (by omega), sI_na (by omega), wF_at, if_pos hj]
  · rw [hXb, wF_na (by omega), hXa, sI_nk (by omega), sI_eq]
  · rw [hXb, wF_na (by omega), hXa, sI_eq]
  · rw [hXb, wF_at, if_pos hj]
theorem merges_start {τ : Sh} {m b : Nat} {Y : Mx} (hm : mdOK τ m) : ∃ Yc, f_X10_merges τ Y m (nI b) = f_X10_merges_60 τ m (nI b) FU Yc (nI 0) ∧ FrY Y Yc m ∧ Yc.1 m 20 = nI 0 ∧ Yc.1 m 21 = nI 0 ∧ Yc.1 m 22 = nI 0 ∧ (∀ j, j < 18 → Yc.1 (m + 9) j = -(nI 1)) ∧ (∀ j, j < 316 → Yc.1 (m + 11) j = nI 0) := by
  obtain ⟨Ya, hYa⟩ : ∃ Z, Z = sI (sI (sI Y m 20 (nI 0)) m 21 (nI 0)) m 22 (nI 0) := ⟨_, rfl⟩
  obtain ⟨n2, e2⟩ := fill_loop (F := fun n x k => f_X10_merges_17 τ m (nI b) n x (nI k)) (X := Ya) (a := m + 11) (N := 316) (f := fun j => nI 0) (by
    intro n x k hk
    show f_X10_merges_17 τ m (nI b) (n + 1) x (nI k) = f_X10_merges_17 τ m (nI b) n (sI x (m + 11) k (nI 0)) (nI (k + 1))
    rw [f_X10_merges_17]
    obtain ⟨m0, m1, m2, m3, m4, m5, m6, m7, m8, m9, m10, m11, m12, m13, m14, m15, m16, m17, mq1, mq2, mq3, mq4, mq5, mq6, mq7, mq8, mq9, mq10, mq11, mq12, mq13, mq14, mq15, mq16, mq17, mn1, mn2, mn3, mn4, mn5, mn6, mn7, mn8, mn9, mn10, mn11, mn12, mn13, mn14, mn15, mn16, mn17⟩ := hm
    simp (disch := first | assumption | omega) only [litM, grd_t, grd_T, ldI_t, stI_t, ldA_t, stA_t, lenA_t, n_lt_t, n_lt_f, n_le_t, n_le_f, n_eq_t, n_eq_f, if_true, if_false, nI_add, nI_mul, bt_d, bI_z, bI_o, Option.bind_some, Bool.true_eq_false, Bool.false_eq_true, ldR, eq_self, if_true, Option.bind_some, m0, m11]) (by have : FU = 40000 := rfl; omega)
  obtain ⟨Yb, hYb⟩ : ∃ Z, Z = wF Ya (m + 11) (fun j => if j < 316 then nI 0 else Ya.1 (m + 11) j) := ⟨_, rfl⟩
  rw [← hYb] at e2
  obtain ⟨n3, e3⟩ := fill_loop (F := fun n x k => f_X10_merges_39 τ m (nI b) n x (nI k)) (X := Yb) (a := m + 9) (N := 18) (f := fun j => -(nI 1)) (by
    intro n x k hk
    show f_X10_merges_39 τ m (nI b) (n + 1) x (nI k) = f_X10_merges_39 τ m (nI b) n (sI x (m + 9) k (-(nI 1))) (nI (k + 1))
    rw [f_X10_merges_39]
    obtain ⟨m0, m1, m2, m3, m4, m5, m6, m7, m8, m9, m10, m11, m12, m13, m14, m15, m16, m17, mq1, mq2, mq3, mq4, mq5, mq6, mq7, mq8, mq9, mq10, mq11, mq12, mq13, mq14, mq15, mq16, mq17, mn1, mn2, mn3, mn4, mn5, mn6, mn7, mn8, mn9, mn10, mn11, mn12, mn13, mn14, mn15, mn16, mn17⟩ := hm
    simp (disch := first | assumption | omega) only [litM, grd_t, grd_T, ldI_t, stI_t, ldA_t, stA_t, lenA_t, n_lt_t, n_lt_f, n_le_t, n_le_f, n_eq_t, n_eq_f, if_true, if_false, nI_add, nI_mul, bt_d, bI_z, bI_o, Option.bind_some, Bool.true_eq_false, Bool.false_eq_true, ldR, eq_self, if_true, Option.bind_some, m0, m9]) (by have : FU = 40000 := rfl; omega)
  obtain ⟨Yc, hYc⟩ : ∃ Z, Z = wF Yb (m + 9) (fun j => if j < 18 then -(nI 1) else Yb.1 (m + 9) j) := ⟨_, rfl⟩
  rw [← hYc] at e3
  refine ⟨Yc, ?_, ⟨?_, fun q h1 h2 => ?_, fun j h1 h2 h3 => ?_⟩, ?_, ?_, ?_, fun j hj => ?_, fun j hj => ?_⟩
  · have m0 := hm.1
    have e4 : f_X10_merges_17 τ m (nI b) (n2 + 1) Yb (nI 316) = f_X10_merges_39 τ m (nI b) FU Yb (nI 0) := by
      rw [f_X10_merges_17, litM, if_pos (Int32.le_refl _), litM]
    have e5 : f_X10_merges_39 τ m (nI b) (n3 + 1) Yc (nI 18) = f_X10_merges_60 τ m (nI b) FU Yc (nI 0) := by
      rw [f_X10_merges_39, litM, if_pos (Int32.le_refl _), litM]
    rw [← e5, ← e3, ← e4, ← e2, hYa]
    simp (disch := first | assumption | omega) only [f_X10_merges, litM, grd_t, grd_T, ldI_t, stI_t, ldA_t, stA_t, lenA_t, n_lt_t, n_lt_f, n_le_t, n_le_f, n_eq_t, n_eq_f, if_true, if_false, nI_add, nI_mul, bt_d, bI_z, bI_o, Option.bind_some, Bool.true_eq_false, Bool.false_eq_true]
  · rw [hYc, hYb, hYa]; rfl
  · rw [hYc, wF_fn (by omega), hYb, wF_fn (by omega), hYa, sI_ne (by omega), sI_ne (by omega), sI_ne (by omega)]
  · rw [hYc, wF_na (by omega), hYb, wF_na (by omega), hYa, sI_nk (by omega), sI_nk (by omega), sI_nk (by omega)]
  · rw [hYc, hYb, hYa, wF_na (by omega), wF_na (by omega), sI_nk (by omega), sI_nk (by omega), sI_eq]
  · rw [hYc, hYb, hYa, wF_na (by omega), wF_na (by omega), sI_nk (by omega), sI_eq]
  · rw [hYc, hYb, hYa, wF_na (by omega), wF_na (by omega), sI_eq]
  · rw [hYc, wF_at, if_pos hj]
  · rw [hYc, wF_na (by omega), hYb, wF_at, if_pos hj]
theorem PH_start {σ : Sh} {g m s L R : Nat} {X Y Xb Yc : Mx} (fx : FrX X Xb g (g + 9)) (x0 : Xb.1 (g + 1) 0 = nI 0) (x1 : Xb.1 (g + 1) 1 = nI 0) (x4 : ∀ j, j < 180 → Xb.1 (g + 4) j = nI 9999) (x2 : Xb.1 g 2 = nI 0) (x3 : Xb.1 g 3 = nI 0) (x9 : ∀ j, j < 9 → Xb.1 (g + 9) j = nI j) (fy : FrY Y Yc m) (y20 : Yc.1 m 20 = nI 0) (y21 : Yc.1 m 21 = nI 0) (y22 : Yc.1 m 22 = nI 0) (y9 : ∀ j, j < 18 → Yc.1 (m + 9) j = -(nI 1)) (y11 : ∀ j, j < 316 → Yc.1 (m + 11) j = nI 0) {ch : Nat → Int32} {Lh Rh : Int32} : PH 0 0 ch Lh Rh X Xb g Y Yc m := by
  have z0 : ∀ j, bt (nI 0) j = false := fun j => bt_zero
  refine ⟨⟨fx, fy, ?_, ⟨x2, y22, fun j hj => by omega⟩, ⟨?_, fun j hj => Or.inl (y11 j hj)⟩, ?_⟩, by omega, fun j => by rw [y21]; exact z0 j, x9, fun j h1 h2 => ⟨y9 j (by omega), y9 (9 + j) (by omega)⟩, fun j _ => by rw [y20]; exact z0 j⟩
  · refine ⟨x0.trans y20.symm, x1.trans y21.symm, by rw [y20]; exact low_0 9, by rw [y21]; exact low_0 20, fun c hc hb => ?_, fun j c hj hc h0 => by omega, fun j c hj hc _ => x4 _ (by omega)⟩
    rw [y20, z0] at hb; cases hb
  · rw [x3]
    refine congrArg nI (cntB_0 (fun j hj => ?_)).symm
    rw [y11 j hj]; simp [show (nI 0 = nI 1) = False from eq_false (by decide)]
  · intro c hc hb
    rw [y20, z0] at hb; cases hb
theorem run40_end {σ : Sh} {g s N : Nat} {X : Mx} : f_X2_run_40 σ g s (N + 1) X (nI 5) = (f_X2_mergeAddedColumns σ X g s).bind fun X2 => (f_X2_partNames σ X2 g s).bind fun X4 => f_X2_run_80 σ g s FU X4 (nI 0) := by
  rw [f_X2_run_40]
  exact if_pos (Int32.le_refl _)
theorem merges60_end {τ : Sh} {m b N : Nat} {Y : Mx} : f_X10_merges_60 τ m (nI b) (N + 1) Y (nI 5) = (f_X10_mergesAdded τ Y m (nI b)).bind fun X2 => (f_X10_mergesNames τ X2 m (nI b)).bind fun X4 => f_X10_merges_89 τ m (nI b) FU X4 (nI 0) := by
  rw [f_X10_merges_60]
  exact if_pos (Int32.le_refl _)
theorem run_chain {σ : Sh} {g s N : Nat} {X Xb X1 X2 X3 X4 X5 X6 : Mx} (ec : f_X2_run σ X g s = f_X2_run_40 σ g s FU Xb (nI 0)) (a1 : f_X2_run_40 σ g s FU Xb (nI 0) = f_X2_run_40 σ g s (N + 1) X1 (nI 5)) (b1 : f_X2_mergeAddedColumns σ X1 g s = some X2) (c1 : f_X2_partNames σ X2 g s = some X3) (d1 : f_X2_run_80 σ g s FU X3 (nI 0) = f_X2_run_100 σ g s FU X4 (nI 0)) (f1 : f_X2_run_100 σ g s FU X4 (nI 0) = f_X2_run_131 σ g s FU X5 (nI 0)) (g1 : f_X2_run_131 σ g s FU X5 (nI 0) = some X6) : f_X2_run σ X g s = some X6 := by
  rw [ec, a1, run40_end, b1, Option.bind_some, c1, Option.bind_some, d1, f1, g1]
theorem merges_chain {τ : Sh} {m b N : Nat} {Y Yc Y1 Y2 Y3 Y4 Y5 Y6 : Mx} (ec : f_X10_merges τ Y m (nI b) = f_X10_merges_60 τ m (nI b) FU Yc (nI 0)) (a1 : f_X10_merges_60 τ m (nI b) FU Yc (nI 0) = f_X10_merges_60 τ m (nI b) (N + 1) Y1 (nI 5)) (b1 : f_X10_mergesAdded τ Y1 m (nI b) = some Y2) (c1 : f_X10_mergesNames τ Y2 m (nI b) = some Y3) (d1 : f_X10_merges_89 τ m (nI b) FU Y3 (nI 0) = f_X10_merges_128 τ m (nI b) FU Y4 (nI 0)) (f1 : f_X10_merges_128 τ m (nI b) FU Y4 (nI 0) = f_X10_merges_187 τ m (nI b) FU Y5 (nI 0)) (g1 : f_X10_merges_187 τ m (nI b) FU Y5 (nI 0) = some Y6) : f_X10_merges τ Y m (nI b) = some Y6 := by
  rw [ec, a1, merges60_end, b1, Option.bind_some, c1, Option.bind_some, d1, f1, g1]
/-- the two merges -/
theorem merge_rel {σ τ : Sh} {g m s L R b : Nat} {X Y : Mx} (hg : mgOK σ g) (hs : stOK σ s L R) (hm : mdOK τ m) (hb : b ≤ 931) (hdj : s + 16 < g ∨ g + 9 < s) (hS : StR X.1 s L R (Y.1 (m + 3)) b) :
    ∃ X1 Y1 n, f_X2_run σ X g s = some X1 ∧ f_X10_merges τ Y m (nI b) = some Y1 ∧ n ≤ 299 ∧ MI 180 (fun _ => True) n (X.1 (s + 16)) (X.1 L 0) (X.1 R 0) X X1 g Y Y1 m := by
  obtain ⟨Xb, ec, fx, x0, x1, x4, x2, x3, x9⟩ := run_start (X := X) (s := s) hg
  obtain ⟨Yc, em, fy, y20, y21, y22, y9, y11⟩ := merges_start (Y := Y) (b := b) hm
  have h0 : PH 0 0 (X.1 (s + 16)) (X.1 L 0) (X.1 R 0) X Xb g Y Yc m := PH_start (σ := σ) (s := s) (L := L) (R := R) fx x0 x1 x4 x2 x3 x9 fy y20 y21 y22 y9 y11
  have hF : 5 < FU := by have : FU = 40000 := rfl; omega
  obtain ⟨N1, M1, X1, Y1, k1, a1, a2, a3⟩ := own_loop (N := FU) (M := FU) hg hs hm hb hdj hS rfl rfl rfl h0 hF hF
  obtain ⟨X2, Y2, b1, b2, b3, b4, b5⟩ := add_rel hg hs hm hb hdj hS rfl rfl a3
  obtain ⟨X3, Y3, k3, c1, c2, c3, c4, c5⟩ := names_rel hg hs hm hb hdj hS rfl b3 b4 b5
  obtain ⟨X4, Y4, k4, d1, d2, d3, d4⟩ := rows_loop hg hs hm hb hdj hS rfl c4 c3
  obtain ⟨X5, Y5, k5, f1, f2, f3, f4⟩ := cells_loop hg hs hm hb hdj hS rfl rfl rfl d4 d3
  obtain ⟨X6, Y6, k6, g1, g2, g3, g4⟩ := dems_loop hg hs hm hb hdj hS rfl f4 f3
  exact ⟨X6, Y6, k6, run_chain ec a1 b1 c1 d1 f1 g1, merges_chain em a2 b2 c2 d2 f2 g2, g3, g4⟩
