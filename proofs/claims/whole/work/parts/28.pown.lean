theorem ldR_g {σ : Sh} {g : Nat} {ρ : Type} {k : Nat → Option ρ} (hg : mgOK σ g) : ldR σ 1 g 0 k = k (g + 1) := by
  simp only [ldR, hg.1, hg.2.1, if_true, Option.bind_some]
theorem ldR_gn {σ : Sh} {g : Nat} {ρ : Type} {k : Nat → Option ρ} (hg : mgOK σ g) : ldR σ 5 (g + 1) 2 k = k (g + 2) := by
  obtain ⟨g0, g1, g2, g3, g4, g5, g6, gT, k5, l5, k6, l6, k7, l7, k8, l8, k9, l9⟩ := hg
  obtain ⟨h1, h2, h3, h4, h5, h6, h7, h8, h9, h10⟩ := gT
  simp only [ldR, h1, h2, if_true, Option.bind_some]
theorem ldR_gt {σ : Sh} {g : Nat} {ρ : Type} {k : Nat → Option ρ} (hg : mgOK σ g) : ldR σ 5 (g + 1) 3 k = k (g + 3) := by
  obtain ⟨g0, g1, g2, g3, g4, g5, g6, gT, k5, l5, k6, l6, k7, l7, k8, l8, k9, l9⟩ := hg
  obtain ⟨h1, h2, h3, h4, h5, h6, h7, h8, h9, h10⟩ := gT
  simp only [ldR, h1, h3, if_true, Option.bind_some]
theorem AskF.refl {X Y : Mx} {g m : Nat} : AskF X X g Y Y m := ⟨rfl, fun _ _ _ _ _ => rfl, rfl, fun _ _ _ _ => rfl, fun _ _ => rfl⟩
theorem AskF.trans {X X1 X2 Y Y1 Y2 : Mx} {g m : Nat} (h : AskF X X1 g Y Y1 m) (k : AskF X1 X2 g Y1 Y2 m) : AskF X X2 g Y Y2 m := ⟨k.1.trans h.1, fun q a b c d => (k.2.1 q a b c d).trans (h.2.1 q a b c d), k.2.2.1.trans h.2.2.1, fun q a b c => (k.2.2.2.1 q a b c).trans (h.2.2.2.1 q a b c), fun j a => (k.2.2.2.2 j a).trans (h.2.2.2.2 j a)⟩
/-- the State is as it was -/
theorem MI.st {σ : Sh} {B n g m s L R b : Nat} {P : Nat → Prop} {ch : Nat → Int32} {Lh Rh : Int32} {X0 X Y0 Y : Mx} (h : MI B P n ch Lh Rh X0 X g Y0 Y m) (hs : stOK σ s L R) (hd : s + 16 < g ∨ g + 9 < s) (hS0 : StR X0.1 s L R (Y0.1 (m + 3)) b) : StR X.1 s L R (Y.1 (m + 3)) b := by
  have e := h.2.1.2.1 (m + 3) (by omega) (by omega)
  rw [e]
  exact hS0.fr hs.2.2.2.2.2.2.2.2.2.2.2.2.2.2.2.2.2.2 (fun q h1 h2 => h.1.2 q (by omega)) (fun _ _ => rfl)
theorem MI.at {B n g m : Nat} {P : Nat → Prop} {ch : Nat → Int32} {Lh Rh : Int32} {X0 X Y0 Y : Mx} (h : MI B P n ch Lh Rh X0 X g Y0 Y m) (q : Nat) (hq : q < g ∨ g + 9 < q) : X.1 q = X0.1 q := h.1.2 q hq
theorem s_mergedName {σ : Sh} {X : Mx} {g s L R c : Nat} (hg : mgOK σ g) (hs : stOK σ s L R) (hc : c < 9) : f_X2_mergedName σ X g s (nI c) = (if X.1 (L + 1) c = X.1 (R + 1) c then some (X.1 (L + 1) c, X) else if X.1 (R + 1) c = X.1 (s + 1 + 1) c then some (X.1 (L + 1) c, X) else if X.1 (L + 1) c = X.1 (s + 1 + 1) c then some (X.1 (R + 1) c, X) else bnd2 (f_X2_ask σ X g s (f_X1_idOf (nI 1) (nI c) (nI 0)) (X.1 (L + 1) c) (X.1 (R + 1) c)) fun v X1 => some (f_X2_chosen v (X.1 (s + 1 + 1) c) (X.1 (L + 1) c) (X.1 (R + 1) c), X1)) := by
  obtain ⟨g0, g1, g2, g3, g4, g5, g6, gT, k5, l5, k6, l6, k7, l7, k8, l8, k9, l9⟩ := hg
  obtain ⟨s0, s1, s2, s3, s4, s5, s6, s7, s8, s9, s10, s11, s12, s13, s14, s15, s16, s17, s18⟩ := hs
  obtain ⟨b1, b2, b3, b4, b5, b6, b7, b8, b9, b10⟩ := s8
  obtain ⟨u1, u2, u3, u4, u5, u6, u7, u8, u9, u10⟩ := s9
  obtain ⟨w1, w2, w3, w4, w5, w6, w7, w8, w9, w10⟩ := s10
  simp (disch := first | assumption | omega) only [f_X2_mergedName, litM, grd_t, grd_T, ldI_t, stI_t, ldA_t, stA_t, lenA_t, n_lt_t, n_lt_f, n_le_t, n_le_f, n_eq_t, n_eq_f, if_true, if_false, nI_add, nI_mul, bt_d, bI_z, bI_o, Option.bind_some, Bool.true_eq_false, Bool.false_eq_true, ldR, eq_self, if_true, Option.bind_some, s0, s1, s2, s3, g0, b1, b2, u1, u2, w1, w2]
theorem s_mergedType {σ : Sh} {X : Mx} {g s L R c : Nat} (hg : mgOK σ g) (hs : stOK σ s L R) (hc : c < 9) : f_X2_mergedType σ X g s (nI c) = (if X.1 (L + 2) c = X.1 (R + 2) c then some (X.1 (L + 2) c, X) else if X.1 (R + 2) c = X.1 (s + 1 + 2) c then some (X.1 (L + 2) c, X) else if X.1 (L + 2) c = X.1 (s + 1 + 2) c then some (X.1 (R + 2) c, X) else if f_X8_together (X.1 (L + 2) c) (X.1 (R + 2) c) = -(nI 1) then bnd2 (f_X2_ask σ X g s (f_X1_idOf (nI 2) (nI c) (nI 0)) (X.1 (L + 2) c) (X.1 (R + 2) c)) fun v X1 => some (f_X2_chosen v (X.1 (s + 1 + 2) c) (X.1 (L + 2) c) (X.1 (R + 2) c), X1) else some (f_X8_together (X.1 (L + 2) c) (X.1 (R + 2) c), X)) := by
  obtain ⟨g0, g1, g2, g3, g4, g5, g6, gT, k5, l5, k6, l6, k7, l7, k8, l8, k9, l9⟩ := hg
  obtain ⟨s0, s1, s2, s3, s4, s5, s6, s7, s8, s9, s10, s11, s12, s13, s14, s15, s16, s17, s18⟩ := hs
  obtain ⟨b1, b2, b3, b4, b5, b6, b7, b8, b9, b10⟩ := s8
  obtain ⟨u1, u2, u3, u4, u5, u6, u7, u8, u9, u10⟩ := s9
  obtain ⟨w1, w2, w3, w4, w5, w6, w7, w8, w9, w10⟩ := s10
  simp (disch := first | assumption | omega) only [f_X2_mergedType, litM, grd_t, grd_T, ldI_t, stI_t, ldA_t, stA_t, lenA_t, n_lt_t, n_lt_f, n_le_t, n_le_f, n_eq_t, n_eq_f, if_true, if_false, nI_add, nI_mul, bt_d, bI_z, bI_o, Option.bind_some, Bool.true_eq_false, Bool.false_eq_true, ldR, eq_self, if_true, Option.bind_some, s0, s1, s2, s3, g0, b1, b3, u1, u3, w1, w3]
theorem s10_nameOf {τ : Sh} {Y : Mx} {m b c : Nat} (hm : mdOK τ m) (hb : b ≤ 931) (hc : c < 9) : f_X10_nameOf τ Y m (nI b) (nI c) = (if Y.1 (m + 3) (b + 200 * 0 + 2 + c) = Y.1 (m + 3) (b + 200 * 1 + 2 + c) then some (Y.1 (m + 3) (b + 200 * 0 + 2 + c), Y) else if Y.1 (m + 3) (b + 200 * 1 + 2 + c) = Y.1 (m + 3) (b + 200 * 2 + 2 + c) then some (Y.1 (m + 3) (b + 200 * 0 + 2 + c), Y) else if Y.1 (m + 3) (b + 200 * 0 + 2 + c) = Y.1 (m + 3) (b + 200 * 2 + 2 + c) then some (Y.1 (m + 3) (b + 200 * 1 + 2 + c), Y) else bnd2 (f_X10_comesUp τ Y m (nI b) (nI 1) (nI c) (nI 0) (Y.1 (m + 3) (b + 200 * 0 + 2 + c)) (Y.1 (m + 3) (b + 200 * 1 + 2 + c))) fun v Y1 => if v = nI 1 then some (Y.1 (m + 3) (b + 200 * 0 + 2 + c), Y1) else if v = nI 2 then some (Y.1 (m + 3) (b + 200 * 1 + 2 + c), Y1) else some (Y.1 (m + 3) (b + 200 * 2 + 2 + c), Y1)) := by
  have hM := hm
  obtain ⟨m0, m1, m2, m3, m4, m5, m6, m7, m8, m9, m10, m11, m12, m13, m14, m15, m16, m17, mq1, mq2, mq3, mq4, mq5, mq6, mq7, mq8, mq9, mq10, mq11, mq12, mq13, mq14, mq15, mq16, mq17, mn1, mn2, mn3, mn4, mn5, mn6, mn7, mn8, mn9, mn10, mn11, mn12, mn13, mn14, mn15, mn16, mn17⟩ := hm
  unfold f_X10_nameOf
  rw [grd_t m0]
  simp only [litM]
  rw [s10_nameAt hM hb (show 0 < 3 by omega) hc, s10_nameAt hM hb (show 1 < 3 by omega) hc, s10_nameAt hM hb (show 2 < 3 by omega) hc]
  rfl
theorem s10_typeBy {τ : Sh} {Y : Mx} {m b c p q : Nat} (hm : mdOK τ m) (hb : b ≤ 931) (hc : c < 9) (hp : p < 4) (hq : q < 4) (el : Y.1 (m + 3) (b + 200 * 0 + 11 + c) = nI p) (er : Y.1 (m + 3) (b + 200 * 1 + 11 + c) = nI q) : f_X10_typeBy τ Y m (nI b) (nI c) = (if nI p = nI q then some (nI p, Y) else if nI q = Y.1 (m + 3) (b + 200 * 2 + 11 + c) then some (nI p, Y) else if nI p = Y.1 (m + 3) (b + 200 * 2 + 11 + c) then some (nI q, Y) else if f_X8_together (nI p) (nI q) = -(nI 1) then bnd2 (f_X10_comesUp τ Y m (nI b) (nI 2) (nI c) (nI 0) (nI p) (nI q)) fun v Y1 => if v = nI 1 then some (nI p, Y1) else if v = nI 2 then some (nI q, Y1) else some (Y.1 (m + 3) (b + 200 * 2 + 11 + c), Y1) else some (f_X8_together (nI p) (nI q), Y)) := by
  have hM := hm
  unfold f_X10_typeBy
  rw [grd_t hm.1]
  simp only [litM]
  rw [s10_typeAt hM hb (show 0 < 3 by omega) hc, s10_typeAt hM hb (show 1 < 3 by omega) hc, s10_typeAt hM hb (show 2 < 3 by omega) hc, el, er]
  simp only [Option.bind_some]
  by_cases e1 : nI p = nI q
  · rw [if_pos e1, if_pos e1]
  rw [if_neg e1, if_neg e1]
  by_cases e2 : nI q = Y.1 (m + 3) (b + 200 * 2 + 11 + c)
  · rw [if_pos e2, if_pos e2]
  rw [if_neg e2, if_neg e2]
  by_cases e3 : nI p = Y.1 (m + 3) (b + 200 * 2 + 11 + c)
  · rw [if_pos e3, if_pos e3]
  rw [if_neg e3, if_neg e3]
  clear hM hm el er hb hc
  rcases (show p = 0 ∨ p = 1 ∨ p = 2 ∨ p = 3 by omega) with rfl | rfl | rfl | rfl <;> rcases (show q = 0 ∨ q = 1 ∨ q = 2 ∨ q = 3 by omega) with rfl | rfl | rfl | rfl <;>
    simp (disch := first | assumption | omega) only [f_X10_typeBy_61, f_X10_typeBy_74, f_X8_together, f_X8_together_10, f_X8_together_22, litM, grd_t, grd_T, ldI_t, stI_t, ldA_t, stA_t, lenA_t, n_lt_t, n_lt_f, n_le_t, n_le_f, n_eq_t, n_eq_f, if_true, if_false, nI_add, nI_mul, bt_d, bI_z, bI_o, Option.bind_some, Bool.true_eq_false, Bool.false_eq_true, m_lt, m_le, m_eq, m_eq2]
theorem tog_q {p q : Nat} (hp : p < 4) (hq : q < 4) : f_X8_together (nI p) (nI q) = -(nI 1) ∨ ∃ t, t < 4 ∧ f_X8_together (nI p) (nI q) = nI t := by
  revert q; revert p; decide +kernel
theorem name_rel {σ τ : Sh} {B n g m s L R b c : Nat} {P : Nat → Prop} {ch : Nat → Int32} {Lh Rh : Int32} {X0 X Y0 Y : Mx} (hg : mgOK σ g) (hs : stOK σ s L R) (hm : mdOK τ m) (hb : b ≤ 931) (hc : c < 5) (hS : StR X.1 s L R (Y.1 (m + 3)) b) (bl : bt (X.1 L 0) c = true) (br : bt (X.1 R 0) c = true) (bb : bt (X.1 (s + 1) 0) c = true) (hP : ¬ P (9 * 1 + c)) (hn : n < 316) (hch : ch = X.1 (s + 16)) (h : MI B P n ch Lh Rh X0 X g Y0 Y m) :
    ∃ v X1 Y1 n1, f_X2_mergedName σ X g s (nI c) = some (v, X1) ∧ f_X10_nameOf τ Y m (nI b) (nI c) = some (v, Y1) ∧ n1 ≤ n + 1 ∧ MI B (fun j => P j ∨ j = 9 * 1 + c) n1 ch Lh Rh X0 X1 g Y0 Y1 m ∧ AskF X X1 g Y Y1 m := by
  obtain ⟨tL, tR, tB, -, -, -, -, -, -, cs⟩ := hS
  rw [s_mergedName hg hs (by omega), s10_nameOf hm hb (by omega), ← (tL.2.2.2.2.1 c (by omega) bl).1, ← (tR.2.2.2.2.1 c (by omega) br).1, ← (tB.2.2.2.2.1 c (by omega) bb).1]
  have hm1 := h.mono (Q := fun j => P j ∨ j = 9 * 1 + c) (fun _ _ q => Or.inl q)
  by_cases e1 : X.1 (L + 1) c = X.1 (R + 1) c
  · rw [if_pos e1, if_pos e1]; exact ⟨_, _, _, n, rfl, rfl, by omega, hm1, AskF.refl⟩
  rw [if_neg e1, if_neg e1]
  by_cases e2 : X.1 (R + 1) c = X.1 (s + 1 + 1) c
  · rw [if_pos e2, if_pos e2]; exact ⟨_, _, _, n, rfl, rfl, by omega, hm1, AskF.refl⟩
  rw [if_neg e2, if_neg e2]
  by_cases e3 : X.1 (L + 1) c = X.1 (s + 1 + 1) c
  · rw [if_pos e3, if_pos e3]; exact ⟨_, _, _, n, rfl, rfl, by omega, hm1, AskF.refl⟩
  rw [if_neg e3, if_neg e3]
  obtain ⟨X1, Y1, n1, q1, q2, q3, q4, q5⟩ := ask_rel (l := X.1 (L + 1) c) (r := X.1 (R + 1) c) hg hs hm hb (show okI (9 * 1 + c) from ⟨by omega, by omega⟩) (id_col 1 (by omega) c (by omega)) hP hn hch (cs _ (by omega)).1 h
  rw [q1, q2]
  refine ⟨f_X2_chosen (X.1 (s + 16) (9 * 1 + c)) (X.1 (s + 1 + 1) c) (X.1 (L + 1) c) (X.1 (R + 1) c), X1, Y1, n1, rfl, ?_, q3, q4, q5⟩
  simp only [bnd2, f_X2_chosen, litM]
  by_cases v1 : X.1 (s + 16) (9 * 1 + c) = nI 1
  · rw [if_pos v1, if_pos v1]
  rw [if_neg v1, if_neg v1]
  by_cases v2 : X.1 (s + 16) (9 * 1 + c) = nI 2
  · rw [if_pos v2, if_pos v2]
  rw [if_neg v2, if_neg v2]
theorem type_rel {σ τ : Sh} {B n g m s L R b c : Nat} {P : Nat → Prop} {ch : Nat → Int32} {Lh Rh : Int32} {X0 X Y0 Y : Mx} (hg : mgOK σ g) (hs : stOK σ s L R) (hm : mdOK τ m) (hb : b ≤ 931) (hc : c < 5) (hS : StR X.1 s L R (Y.1 (m + 3)) b) (bl : bt (X.1 L 0) c = true) (br : bt (X.1 R 0) c = true) (bb : bt (X.1 (s + 1) 0) c = true) (hP : ¬ P (9 * 2 + c)) (hn : n < 316) (hch : ch = X.1 (s + 16)) (h : MI B P n ch Lh Rh X0 X g Y0 Y m) :
    ∃ v X1 Y1 n1, f_X2_mergedType σ X g s (nI c) = some (v, X1) ∧ f_X10_typeBy τ Y m (nI b) (nI c) = some (v, Y1) ∧ n1 ≤ n + 1 ∧ MI B (fun j => P j ∨ j = 9 * 2 + c) n1 ch Lh Rh X0 X1 g Y0 Y1 m ∧ AskF X X1 g Y Y1 m ∧ ∃ q, q < 4 ∧ v = nI q := by
  obtain ⟨tL, tR, tB, -, -, -, -, -, -, cs⟩ := hS
  obtain ⟨-, el, p, hp, ep⟩ := tL.2.2.2.2.1 c (by omega) bl
  obtain ⟨-, er, q, hq, eq⟩ := tR.2.2.2.2.1 c (by omega) br
  obtain ⟨-, ei, i, hi, ei2⟩ := tB.2.2.2.2.1 c (by omega) bb
  rw [s_mergedType hg hs (by omega), s10_typeBy hm hb (by omega) hp hq (el.symm.trans ep) (er.symm.trans eq), ← ei, ei2, ep, eq]
  have hm1 := h.mono (Q := fun j => P j ∨ j = 9 * 2 + c) (fun _ _ q => Or.inl q)
  by_cases e1 : nI p = nI q
  · rw [if_pos e1, if_pos e1]; exact ⟨_, _, _, n, rfl, rfl, by omega, hm1, AskF.refl, p, hp, rfl⟩
  rw [if_neg e1, if_neg e1]
  by_cases e2 : nI q = nI i
  · rw [if_pos e2, if_pos e2]; exact ⟨_, _, _, n, rfl, rfl, by omega, hm1, AskF.refl, p, hp, rfl⟩
  rw [if_neg e2, if_neg e2]
  by_cases e3 : nI p = nI i
  · rw [if_pos e3, if_pos e3]; exact ⟨_, _, _, n, rfl, rfl, by omega, hm1, AskF.refl, q, hq, rfl⟩
  rw [if_neg e3, if_neg e3]
  by_cases e4 : f_X8_together (nI p) (nI q) = -(nI 1)
  · rw [if_pos e4, if_pos e4]
    obtain ⟨X1, Y1, n1, q1, q2, q3, q4, q5⟩ := ask_rel (l := nI p) (r := nI q) hg hs hm hb (show okI (9 * 2 + c) from ⟨by omega, by omega⟩) (id_col 2 (by omega) c (by omega)) hP hn hch (cs _ (by omega)).1 h
    rw [q1, q2]
    refine ⟨f_X2_chosen (X.1 (s + 16) (9 * 2 + c)) (nI i) (nI p) (nI q), X1, Y1, n1, rfl, ?_, q3, q4, q5, ?_⟩
    · simp only [bnd2, f_X2_chosen, litM]
      by_cases v1 : X.1 (s + 16) (9 * 2 + c) = nI 1
      · rw [if_pos v1, if_pos v1]
      rw [if_neg v1, if_neg v1]
      by_cases v2 : X.1 (s + 16) (9 * 2 + c) = nI 2
      · rw [if_pos v2, if_pos v2]
      rw [if_neg v2, if_neg v2]
    · simp only [f_X2_chosen]
      split
      · exact ⟨p, hp, rfl⟩
      · split
        · exact ⟨q, hq, rfl⟩
        · exact ⟨i, hi, rfl⟩
  · rw [if_neg e4, if_neg e4]
    exact ⟨_, _, _, n, rfl, rfl, by omega, hm1, AskF.refl, (tog_q hp hq).elim (fun q => absurd q e4) (fun q => q)⟩
/-- what the sources say of a column that isn't merged is free -/
theorem MI.src {B n g m c : Nat} {P : Nat → Prop} {ch : Nat → Int32} {Lh Rh : Int32} {X0 X Y0 Y : Mx} (h : MI B P n ch Lh Rh X0 X g Y0 Y m) (hc : c < 9) (hb : bt (Y.1 m 20) c = false) {v w : Int32} : MI B P n ch Lh Rh X0 X g Y0 (sI (sI Y (m + 9) c v) (m + 9) (9 + c) w) m := by
  obtain ⟨f1, f2, t, cf, u, sr⟩ := h
  refine ⟨f1, ⟨f2.1, fun q h1 h2 => ?_, fun j h1 h2 h3 => ?_⟩, ?_, ?_, ?_, ?_⟩
  · rw [sI_ne (by omega), sI_ne (by omega)]; exact f2.2.1 q h1 h2
  · rw [sI_na (by omega), sI_na (by omega)]; exact f2.2.2 j h1 h2 h3
  · simp (disch := first | assumption | omega) only [sI_na, sI_ne]; exact t
  · simp (disch := first | assumption | omega) only [sI_na, sI_ne]; exact cf
  · simp (disch := first | assumption | omega) only [sI_na, sI_ne]; exact u
  · simp (disch := first | assumption | omega) only [sI_na]
    intro j hj hbj
    have hne : j ≠ c := fun e => by rw [e, hb] at hbj; cases hbj
    obtain ⟨r1, r2, r3⟩ := sr j hj hbj
    have e1 : (sI (sI Y (m + 9) c v) (m + 9) (9 + c) w).1 (m + 9) (9 + j) = Y.1 (m + 9) (9 + j) := by rw [sI_nk (by omega), sI_nk (by omega)]
    have e2 : (sI (sI Y (m + 9) c v) (m + 9) (9 + c) w).1 (m + 9) j = Y.1 (m + 9) j := by rw [sI_nk (by omega), sI_nk (by omega)]
    rw [e1, e2]
    exact ⟨r1, r2, r3⟩
/-- a column comes to the merged ones, while there are no rows -/
theorem MI.put {n g m c : Nat} {P : Nat → Prop} {ch : Nat → Int32} {Lh Rh : Int32} {X0 X Y0 Y : Mx} (h : MI 0 P n ch Lh Rh X0 X g Y0 Y m) (hk : ∀ j, bt (Y.1 m 21) j = false) (hc : c < 9) {nm ty : Int32} (ht : ∃ q, q < 4 ∧ ty = nI q)
    (hsr : (c < 5 → X.1 (g + 9) c = nI c ∧ Y.1 (m + 9) c = (if bt Lh c = true then nI c else -(nI 1)) ∧ Y.1 (m + 9) (9 + c) = (if bt Rh c = true then nI c else -(nI 1))) ∧ (5 ≤ c → c < 7 → bt Lh c = true ∧ Y.1 (m + 9) c = nI c ∧ X.1 (g + 9) c = Y.1 (m + 9) (9 + c) ∧ (Y.1 (m + 9) (9 + c) = -(nI 1) ∨ Y.1 (m + 9) (9 + c) = nI 7 ∨ Y.1 (m + 9) (9 + c) = nI 8)) ∧ (7 ≤ c → bt Rh c = true ∧ Y.1 (m + 9) c = -(nI 1) ∧ Y.1 (m + 9) (9 + c) = nI c ∧ X.1 (g + 9) c = nI c)) :
    MI 0 P n ch Lh Rh X0 (sI (sI (sI X (g + 1) 0 (X.1 (g + 1) 0 ||| ((1 : Int32) <<< (nI c &&& 31)))) (g + 2) c nm) (g + 3) c ty) g Y0 (sI (sI (sI Y m 20 (Y.1 m 20 ||| ((1 : Int32) <<< (nI c &&& 31)))) (m + 5) c nm) (m + 6) c ty) m := by
  obtain ⟨f1, f2, ⟨t1, t2, t3, t4, t5, t6, t7⟩, cf, u, sr⟩ := h
  have eh : (sI (sI (sI Y m 20 (Y.1 m 20 ||| ((1 : Int32) <<< (nI c &&& 31)))) (m + 5) c nm) (m + 6) c ty).1 m 20 = Y.1 m 20 ||| ((1 : Int32) <<< (nI c &&& 31)) := by simp (disch := first | assumption | omega) only [sI_na, sI_eq]
  have ek : (sI (sI (sI Y m 20 (Y.1 m 20 ||| ((1 : Int32) <<< (nI c &&& 31)))) (m + 5) c nm) (m + 6) c ty).1 m 21 = Y.1 m 21 := by simp (disch := first | assumption | omega) only [sI_na, sI_nk]
  refine ⟨⟨f1.1, fun q hq => ?_⟩, ⟨f2.1, fun q h1 h2 => ?_, fun j h1 h2 h3 => ?_⟩, ?_, ?_, ?_, ?_⟩
  · rw [sI_ne (by omega), sI_ne (by omega), sI_ne (by omega)]; exact f1.2 q hq
  · rw [sI_ne (by omega), sI_ne (by omega), sI_ne (by omega)]; exact f2.2.1 q h1 h2
  · rw [sI_na (by omega), sI_na (by omega), sI_nk (by omega)]; exact f2.2.2 j h1 h2 h3
  · rw [eh, ek]
    refine ⟨?_, ?_, low_set t3 hc (by omega), t4, fun j hj hbj => ?_, fun j d hj hd h0 => by omega, fun j d hj hd h0 => ?_⟩
    · simp (disch := first | assumption | omega) only [sI_na, sI_eq, t1]
    · simp (disch := first | assumption | omega) only [sI_na, sI_nk, t2]
    · rw [bt_set (by omega)] at hbj
      by_cases e : j = c
      · subst e
        simp (disch := first | assumption | omega) only [sI_na, sI_eq]
        exact ⟨trivial, trivial, ht⟩
      · have hb2 : bt (Y.1 m 20) j = true := by simpa [e] using hbj
        simp (disch := first | assumption | omega) only [sI_na, sI_nk]
        exact t5 j hj hb2
    · simp (disch := first | assumption | omega) only [sI_na, sI_ne]
      exact t7 j d hj hd (Or.inl (hk j))
  · simp (disch := first | assumption | omega) only [sI_na, sI_ne, sI_nk]; exact cf
  · simp (disch := first | assumption | omega) only [sI_na, sI_ne, sI_nk]; exact u
  · rw [eh]
    intro j hj hbj
    rw [bt_set (by omega)] at hbj
    simp (disch := first | assumption | omega) only [sI_na]
    by_cases e : j = c
    · subst e; exact hsr
    · have hb2 : bt (Y.1 m 20) j = true := by simpa [e] using hbj
      exact sr j hj hb2
theorem s10_takes {τ : Sh} {Y : Mx} {m c : Nat} {nm ty : Int32} (hm : mdOK τ m) (hc : c < 9) : f_X10_takes τ Y m (nI c) nm ty = some (sI (sI (sI Y m 20 (Y.1 m 20 ||| ((1 : Int32) <<< (nI c &&& 31)))) (m + 5) c nm) (m + 6) c ty) := by
  obtain ⟨m0, m1, m2, m3, m4, m5, m6, m7, m8, m9, m10, m11, m12, m13, m14, m15, m16, m17, mq1, mq2, mq3, mq4, mq5, mq6, mq7, mq8, mq9, mq10, mq11, mq12, mq13, mq14, mq15, mq16, mq17, mn1, mn2, mn3, mn4, mn5, mn6, mn7, mn8, mn9, mn10, mn11, mn12, mn13, mn14, mn15, mn16, mn17⟩ := hm
  simp (disch := first | assumption | omega) only [f_X10_takes, litM, grd_t, grd_T, ldI_t, stI_t, ldA_t, stA_t, lenA_t, n_lt_t, n_lt_f, n_le_t, n_le_f, n_eq_t, n_eq_f, if_true, if_false, nI_add, nI_mul, bt_d, bI_z, bI_o, Option.bind_some, Bool.true_eq_false, Bool.false_eq_true, ldR, eq_self, if_true, Option.bind_some, m0, m5, m6]
/-- before the added columns -/
def P1 (c : Nat) : Nat → Prop := fun id => id < 27 ∧ id % 9 < c
def PH (c n : Nat) (ch : Nat → Int32) (Lh Rh : Int32) (X0 X : Mx) (g : Nat) (Y0 Y : Mx) (m : Nat) : Prop :=
  MI 0 (P1 c) n ch Lh Rh X0 X g Y0 Y m ∧ n ≤ 2 * c ∧ (∀ j, bt (Y.1 m 21) j = false) ∧ (∀ j, j < 9 → X.1 (g + 9) j = nI j) ∧ (∀ j, 5 ≤ j → j < 9 → Y.1 (m + 9) j = -(nI 1) ∧ Y.1 (m + 9) (9 + j) = -(nI 1)) ∧ (∀ j, c ≤ j → bt (Y.1 m 20) j = false)
/-- a column that one side alone has -/
theorem gone_rel {σ τ : Sh} {n g m s L R b c : Nat} {P : Nat → Prop} {ch : Nat → Int32} {Lh Rh : Int32} {X0 X Y0 Y : Mx} {t : Nat} (hg : mgOK σ g) (hs : stOK σ s L R) (hm : mdOK τ m) (hb : b ≤ 931) (hc : c < 5) (ht : t < 2) (hS : StR X.1 s L R (Y.1 (m + 3)) b) (bo : bt (X.1 (sd t L R) 0) c = true) (bb : bt (X.1 (s + 1) 0) c = true) (hP : ¬ P (9 * 0 + c)) (hn : n < 316) (hch : ch = X.1 (s + 16)) (hk : ∀ j, bt (Y.1 m 21) j = false) (hd : s + 16 < g ∨ g + 9 < s)
    (hsr : X.1 (g + 9) c = nI c ∧ Y.1 (m + 9) c = (if bt Lh c = true then nI c else -(nI 1)) ∧ Y.1 (m + 9) (9 + c) = (if bt Rh c = true then nI c else -(nI 1))) (h : MI 0 P n ch Lh Rh X0 X g Y0 Y m) :
    ∃ X1 Y1 n1, f_X2_mergeColumn_73 σ g s (nI c) X (nI t) = some X1 ∧ f_X10_mergesOwn_111 τ m (nI b) (nI c) Y (nI t) = some Y1 ∧ n1 ≤ n + 1 ∧ MI 0 (fun j => P j ∨ j = 9 * 0 + c) n1 ch Lh Rh X0 X1 g Y0 Y1 m ∧ (∀ j, bt (Y1.1 m 21) j = false) ∧ X1.1 (g + 9) = X.1 (g + 9) ∧ Y1.1 (m + 9) = Y.1 (m + 9) ∧ (∀ j, j ≠ c → bt (Y1.1 m 20) j = bt (Y.1 m 20) j) := by
  have hO := sd_ok hs t
  have hTO : TabR X.1 (sd t L R) (Y.1 (m + 3)) (b + 200 * t) := by
    rcases (show t = 0 ∨ t = 1 by omega) with rfl | rfl
    · exact hS.1
    · exact hS.2.1
  obtain ⟨tL, tR, tB, -, -, -, -, -, -, cs⟩ := hS
  obtain ⟨on, ot, otq⟩ := hTO.2.2.2.2.1 c (by omega) bo
  obtain ⟨bn, bt', -⟩ := tB.2.2.2.2.1 c (by omega) bb
  have hm1 := h.mono (Q := fun j => P j ∨ j = 9 * 0 + c) (fun _ _ q => Or.inl q)
  have hanyc : anyB (fun k => rChg (Y.1 (m + 3)) b t k c) 20 = anyB (fun k => cChg X.1 (s + 1) (sd t L R) k c) 20 := anyB_congr (fun k hk => chg_rel tB hTO hk (by omega))
  have hM := hm
  have hs' := hs
  have hg' := hg
  -- the reference
  have em : f_X10_mergesOwn_111 τ m (nI b) (nI c) Y (nI t) = if (anyB (fun k => cChg X.1 (s + 1) (sd t L R) k c) 20 || decide (X.1 (sd t L R + 1) c ≠ X.1 (s + 1 + 1) c ∨ X.1 (sd t L R + 2) c ≠ X.1 (s + 1 + 2) c)) = true then bnd2 (f_X10_comesUp τ Y m (nI b) (nI 0) (nI c) (nI 0) (-(nI 1)) (-(nI 1))) (fun v5 X4 => (if v5 = nI 1 then some X4 else (f_X10_nameAt τ X4 m (nI b) (nI t) (nI c)).bind fun v7 => (f_X10_typeAt τ X4 m (nI b) (nI t) (nI c)).bind fun v9 => (f_X10_takes τ X4 m (nI c) v7 v9).bind fun X11 => some X11)) else some Y := by
    unfold f_X10_mergesOwn_111
    rw [s10_isColumnChanged hM hb (by omega) (by omega), hanyc, ← on, ← ot, ← bn, ← bt']
    simp only [Option.bind_some, litM, ifI]
  have ec : f_X2_mergeColumn_73 σ g s (nI c) X (nI t) = if (anyB (fun k => cChg X.1 (s + 1) (sd t L R) k c) 20 || decide (X.1 (sd t L R + 1) c ≠ X.1 (s + 1 + 1) c ∨ X.1 (sd t L R + 2) c ≠ X.1 (s + 1 + 2) c)) = true then f_X2_mergeColumn_136 σ g s (nI c) (sd t L R) X (nI 0) else f_X2_mergeColumn_136 σ g s (nI c) (sd t L R) X (nI 1) := by
    have hO' := hO
    obtain ⟨g0, g1, g2, g3, g4, g5, g6, gT, k5, l5, k6, l6, k7, l7, k8, l8, k9, l9⟩ := hg
    obtain ⟨s0, s1, s2, s3, s4, s5, s6, s7, s8, s9, s10, s11, s12, s13, s14, s15, s16, s17, s18⟩ := hs
    obtain ⟨b1, b2, b3, b4, b5, b6, b7, b8, b9, b10⟩ := s8
    obtain ⟨h1, h2, h3, h4, h5, h6, h7, h8, h9, h10⟩ := hO
    unfold f_X2_mergeColumn_73
    simp (disch := first | assumption | omega) only [litM, grd_t, grd_T, ldI_t, stI_t, ldA_t, stA_t, lenA_t, n_lt_t, n_lt_f, n_le_t, n_le_f, n_eq_t, n_eq_f, if_true, if_false, nI_add, nI_mul, bt_d, bI_z, bI_o, Option.bind_some, Bool.true_eq_false, Bool.false_eq_true, ldR, eq_self, if_true, Option.bind_some, s0, s1, b1, b2, b3, h1, h2, h3, s_sideOf hs', s_isColumnChanged hs', f_X2_mergeColumn_135]
    by_cases e1 : X.1 (sd t L R + 1) c = X.1 (s + 1 + 1) c
    · by_cases e2 : X.1 (sd t L R + 2) c = X.1 (s + 1 + 2) c
      · cases e3 : anyB (fun k => cChg X.1 (s + 1) (sd t L R) k c) 20 <;> simp [e1, e2]
      · simp [e1, e2]
    · simp [e1]
  rw [em, ec]
  cases ea : (anyB (fun k => cChg X.1 (s + 1) (sd t L R) k c) 20 || decide (X.1 (sd t L R + 1) c ≠ X.1 (s + 1 + 1) c ∨ X.1 (sd t L R + 2) c ≠ X.1 (s + 1 + 2) c)) with
  | false =>
    rw [if_neg (by decide), if_neg (by decide)]
    refine ⟨X, Y, n, ?_, rfl, by omega, hm1, hk, rfl, rfl, fun _ _ => rfl⟩
    simp (disch := first | assumption | omega) only [f_X2_mergeColumn_136, litM, grd_t, grd_T, ldI_t, stI_t, ldA_t, stA_t, lenA_t, n_lt_t, n_lt_f, n_le_t, n_le_f, n_eq_t, n_eq_f, if_true, if_false, nI_add, nI_mul, bt_d, bI_z, bI_o, Option.bind_some, Bool.true_eq_false, Bool.false_eq_true]
  | true =>
    rw [if_pos rfl, if_pos rfl]
    obtain ⟨X1, Y1, n1, q1, q2, q3, q4, q5⟩ := ask_rel (l := -(nI 1)) (r := -(nI 1)) hg hs hm hb (show okI (9 * 0 + c) from ⟨by omega, by omega⟩) (id_col 0 (by omega) c (by omega)) hP hn hch (cs _ (by omega)).1 h
    have hk1 : ∀ j, bt (Y1.1 m 21) j = false := fun j => by rw [q5.2.2.2.2 21 (by omega)]; exact hk j
    have a9 : X1.1 (g + 9) = X.1 (g + 9) := q5.2.1 _ (by omega) (by omega) (by omega) (by omega)
    have b9' : Y1.1 (m + 9) = Y.1 (m + 9) := q5.2.2.2.1 _ (by omega) (by omega) (by omega)
    have h20 : Y1.1 m 20 = Y.1 m 20 := q5.2.2.2.2 20 (by omega)
    rw [q2]
    simp (disch := first | assumption | omega) only [f_X2_mergeColumn_136, litM, grd_t, grd_T, ldI_t, stI_t, ldA_t, stA_t, lenA_t, n_lt_t, n_lt_f, n_le_t, n_le_f, n_eq_t, n_eq_f, if_true, if_false, nI_add, nI_mul, bt_d, bI_z, bI_o, Option.bind_some, Bool.true_eq_false, Bool.false_eq_true, q1, bnd2]
    by_cases v1 : X.1 (s + 16) (9 * 0 + c) = nI 1
    · rw [if_pos v1, if_pos v1]
      exact ⟨X1, Y1, n1, rfl, rfl, q3, q4, hk1, a9, b9', fun j _ => by rw [h20]⟩
    · rw [if_neg v1, if_neg v1]
      have hnn : X1.1 (sd t L R + 1) = X.1 (sd t L R + 1) := q5.2.1 _ (by have := hs.2.2.2.2.2.2.2.2.2.2.2.2.2.2.2.2.2.2; unfold sd; split <;> omega) (by have := hs.2.2.2.2.2.2.2.2.2.2.2.2.2.2.2.2.2.2; unfold sd; split <;> omega) (by have := hs.2.2.2.2.2.2.2.2.2.2.2.2.2.2.2.2.2.2; unfold sd; split <;> omega) (by have := hs.2.2.2.2.2.2.2.2.2.2.2.2.2.2.2.2.2.2; unfold sd; split <;> omega)
      have htt : X1.1 (sd t L R + 2) = X.1 (sd t L R + 2) := q5.2.1 _ (by have := hs.2.2.2.2.2.2.2.2.2.2.2.2.2.2.2.2.2.2; unfold sd; split <;> omega) (by have := hs.2.2.2.2.2.2.2.2.2.2.2.2.2.2.2.2.2.2; unfold sd; split <;> omega) (by have := hs.2.2.2.2.2.2.2.2.2.2.2.2.2.2.2.2.2.2; unfold sd; split <;> omega) (by have := hs.2.2.2.2.2.2.2.2.2.2.2.2.2.2.2.2.2.2; unfold sd; split <;> omega)
      have hww : Y1.1 (m + 3) = Y.1 (m + 3) := q5.2.2.2.1 _ (by omega) (by omega) (by omega)
      rw [s10_nameAt hM hb (by omega) (by omega), s10_typeAt hM hb (by omega) (by omega), hww, ← on, ← ot]
      simp only [Option.bind_some]
      rw [s10_takes hM (by omega)]
      have hput := q4.put (nm := X.1 (sd t L R + 1) c) (ty := X.1 (sd t L R + 2) c) hk1 (show c < 9 by omega) otq (by rw [a9, b9']; exact ⟨fun _ => hsr, fun q => by omega, fun q => by omega⟩)
      refine ⟨_, _, n1, ?_, rfl, q3, hput, fun j => ?_, ?_, ?_, fun j hj => ?_⟩
      · obtain ⟨g0, g1, g2, g3, g4, g5, g6, gT, k5, l5, k6, l6, k7, l7, k8, l8, k9, l9⟩ := hg
        obtain ⟨h1, h2, h3, h4, h5, h6, h7, h8, h9, h10⟩ := hO
        simp (disch := first | assumption | omega) only [litM, grd_t, grd_T, ldI_t, stI_t, ldA_t, stA_t, lenA_t, n_lt_t, n_lt_f, n_le_t, n_le_f, n_eq_t, n_eq_f, if_true, if_false, nI_add, nI_mul, bt_d, bI_z, bI_o, Option.bind_some, Bool.true_eq_false, Bool.false_eq_true, ldR, eq_self, if_true, Option.bind_some, g0, g1, h1, h2, h3, s_putColumn gT, hnn, htt]
      · simp (disch := first | assumption | omega) only [sI_na, sI_nk]; exact hk1 j
      · simp (disch := first | assumption | omega) only [sI_ne]; exact a9
      · simp (disch := first | assumption | omega) only [sI_ne]; exact b9'
      · simp (disch := first | assumption | omega) only [sI_na, sI_eq]
        rw [bt_set (by omega), h20]; simp [hj]
