/-! ===== both after an act ===== -/
theorem IV.kept {σ : Sh} {X Z : Mx} {a L R L' R' : Nat} (h : IV σ X a L R) (hs' : IVs σ a L' R') (hq : ∀ q, (a + 28 ≤ q ∧ q ≤ a + 29) ∨ (a + 49 ≤ q ∧ q ≤ a + 52) ∨ (a + 84 ≤ q ∧ q ≤ a + 107) ∨ q = a + 109 ∨ q = a + 110 ∨ (a + 122 ≤ q ∧ q ≤ a + 125) ∨ a + 126 < q → Z.1 q = X.1 q) (h9 : Z.1 a 9 = X.1 a 9) (h11 : Z.1 a 11 = X.1 a 11) (hm : ∀ j, j = 2 ∨ j = 4 ∨ j = 32 ∨ j = 35 ∨ j = 36 ∨ j = 37 → Z.1 (a + 108) j = X.1 (a + 108) j) (hS : StR Z.1 (a + 1) L' R' (Z.1 (a + 111)) 0) (hA : ActsR σ Z.1 (a + 47) (Z.1 (a + 108) 19) (a + 112)) (h10 : Z.1 a 10 = nI 0) (h81 : ∀ q, q < 7 → Z.1 (a + 81) q = nI 0) : IV σ Z a L' R' := by
  obtain ⟨hs, ⟨c1, c2, c3, c4, ⟨c5, c6⟩, ⟨f, c7, c8⟩, c9, c10⟩, -, -⟩ := h
  refine ⟨hs', ⟨hS, c2.fr (by rw [hq _ (by omega)]) (hm 2 (by omega)) (hq _ (by omega)) (hq _ (by omega)), hA, c4.fr (hq _ (by omega)) (hq _ (by omega)) (hq _ (by omega)) (hq _ (by omega)) (hm 32 (by omega)) (hq _ (by omega)), ⟨by rw [h9, hm 35 (by omega)]; exact c5, ?_⟩, ⟨f, c7, by rw [hq _ (by omega)]; exact c8⟩, fun i hi => by rw [hq (a + 107) (by omega), hq (a + 110) (by omega)]; exact c9 i hi, by rw [h11, hm 4 (by omega)]; exact c10⟩, Or.inl h10, fun q hq => Or.inl (h81 q (by omega))⟩
  rw [h9]
  refine c6.imp_right (fun ⟨d1, d2, d3, d4⟩ => ⟨d1, ?_, ?_, ?_⟩)
  · rw [hq (a + 123) (by omega)]
    exact d2.fr (Or.inl ⟨rfl, rfl⟩) (fun q h1 h2 => hq q (by omega)) (fun _ _ => rfl)
  · exact d3.fr (Or.inr rfl) hs.2.2.1 (by rw [hq _ (by omega)]) (by rw [hq _ (by omega)]) (hm 36 (by omega)) (hq _ (by omega)) (fun q h => hq q (by omega))
  · exact d4.fr (hq _ (by omega)) (hq _ (by omega)) (hq _ (by omega)) (hq _ (by omega)) (hm 37 (by omega)) (hq _ (by omega))
/-- a refusal counted by both -/
theorem IV.ref {σ : Sh} {X Z : Mx} {a L R : Nat} (h : IV σ X a L R) (hq : ∀ q, q ≠ a + 107 → q ≠ a + 110 → q ≠ a + 108 → q ≠ a + 111 → Z.1 q = X.1 q) (hm : ∀ j, j ≠ 0 → Z.1 (a + 108) j = X.1 (a + 108) j) (hw : ∀ j, j < 931 → Z.1 (a + 111) j = X.1 (a + 111) j) (hr : ∀ i, i < 3 → Z.1 (a + 107) i = Z.1 (a + 110) i) : IV σ Z a L R := by
  obtain ⟨hs, ⟨c1, c2, c3, c4, ⟨c5, c6⟩, ⟨f, c7, c8⟩, c9, c10⟩, hM, hQ⟩ := h
  have lr := hs.2.1.lr
  refine ⟨hs, ⟨c1.fr lr (fun q q1 q2 => hq q (by omega) (by omega) (by omega) (by omega)) (fun j hj => by rw [Nat.zero_add]; exact hw j hj), c2.fr (by rw [hq _ (by omega) (by omega) (by omega) (by omega)]) (hm 2 (by omega)) (hq _ (by omega) (by omega) (by omega) (by omega)) (hq _ (by omega) (by omega) (by omega) (by omega)), c3.fr (Or.inl rfl) hs.2.2.1 (by rw [hq _ (by omega) (by omega) (by omega) (by omega)]) (by rw [hq _ (by omega) (by omega) (by omega) (by omega)]) (hm 19 (by omega)) (hq _ (by omega) (by omega) (by omega) (by omega)) (fun q h => hq q (by omega) (by omega) (by omega) (by omega)), c4.fr (hq _ (by omega) (by omega) (by omega) (by omega)) (hq _ (by omega) (by omega) (by omega) (by omega)) (hq _ (by omega) (by omega) (by omega) (by omega)) (hq _ (by omega) (by omega) (by omega) (by omega)) (hm 32 (by omega)) (hq _ (by omega) (by omega) (by omega) (by omega)), ⟨by rw [hq a (by omega) (by omega) (by omega) (by omega), hm 35 (by omega)]; exact c5, ?_⟩, ⟨f, c7, by rw [hq _ (by omega) (by omega) (by omega) (by omega)]; exact c8⟩, hr, by rw [hq a (by omega) (by omega) (by omega) (by omega), hm 4 (by omega)]; exact c10⟩, hM.fr hs.lr (by rw [hq a (by omega) (by omega) (by omega) (by omega)]) (fun q h1 h2 => hq q (by omega) (by omega) (by omega) (by omega)) hw, hQ.fr (hq _ (by omega) (by omega) (by omega) (by omega)) (hq _ (by omega) (by omega) (by omega) (by omega)) hw (hm 32 (by omega)) (fun j _ => by rw [hq (a + 122) (by omega) (by omega) (by omega) (by omega)])⟩
  rw [hq a (by omega) (by omega) (by omega) (by omega)]
  refine c6.imp_right (fun ⟨d1, d2, d3, d4⟩ => ⟨d1, ?_, ?_, ?_⟩)
  · rw [hq (a + 123) (by omega) (by omega) (by omega) (by omega)]
    exact d2.fr (Or.inl ⟨rfl, rfl⟩) (fun q h1 h2 => hq q (by omega) (by omega) (by omega) (by omega)) (fun _ _ => rfl)
  · exact d3.fr (Or.inr rfl) hs.2.2.1 (by rw [hq _ (by omega) (by omega) (by omega) (by omega)]) (by rw [hq _ (by omega) (by omega) (by omega) (by omega)]) (hm 36 (by omega)) (hq _ (by omega) (by omega) (by omega) (by omega)) (fun q h => hq q (by omega) (by omega) (by omega) (by omega))
  · exact d4.fr (hq _ (by omega) (by omega) (by omega) (by omega)) (hq _ (by omega) (by omega) (by omega) (by omega)) (hq _ (by omega) (by omega) (by omega) (by omega)) (hq _ (by omega) (by omega) (by omega) (by omega)) (hm 37 (by omega)) (hq _ (by omega) (by omega) (by omega) (by omega))
theorem StR.mvw {X : Nat → Nat → Int32} {s L R b b1 : Nat} {W W1 : Nat → Int32} (h : StR X s L R W b) (hw : ∀ j, j < 931 → W1 (b1 + j) = W (b + j)) : StR X s L R W1 b1 :=
  h.mv (fun p q hpq => by
    have : p = q := by omega
    subst this
    exact ⟨rfl, rfl, fun _ _ => rfl, fun _ _ => rfl, fun _ _ => rfl⟩) rfl rfl rfl (fun _ _ => rfl) (fun _ _ => rfl) (fun _ _ => rfl) (fun _ _ => rfl) hw
theorem refuseAct {σ : Sh} {X : Mx} {a L R : Nat} (hs : IVs σ a L R) : f_X9_refuseAct σ X a = some (-(nI 1), sI X (a + 107) 1 (X.1 (a + 107) 1 + nI 1)) := by
  obtain ⟨⟨⟨o0, o1, o2, o3, o4, o5, o6, o7, o8, o9, o10⟩, oM, oT, oA, oS, oQ, oI, oA2, oS2, ⟨oR, oRn⟩, oD, oO⟩, hst, hsl, hsh⟩ := hs
  unfold f_X9_refuseAct
  simp (disch := first | assumption | omega) only [litM, grd_t, grd_T, ldI_t, stI_t, ldA_t, stA_t, lenA_t, n_lt_t, n_lt_f, n_le_t, n_le_f, n_eq_t, n_eq_f, if_true, if_false, nI_add, nI_mul, bt_d, bI_z, bI_o, Option.bind_some, Bool.true_eq_false, Bool.false_eq_true, ldR, eq_self, if_true, Option.bind_some, o0, o10]
theorem m_refuses {τ : Sh} {Y : Mx} {m i : Nat} (hm : mdOK τ m) (hi : i < 3) : f_X10_refuses τ Y m (nI i) = some (-(nI 1), sI Y (m + 2) i (Y.1 (m + 2) i + nI 1)) := by
  obtain ⟨m0, m1, m2, m3, m4, m5, m6, m7, m8, m9, m10, m11, m12, m13, m14, m15, m16, m17, mq1, mq2, mq3, mq4, mq5, mq6, mq7, mq8, mq9, mq10, mq11, mq12, mq13, mq14, mq15, mq16, mq17, mn1, mn2, mn3, mn4, mn5, mn6, mn7, mn8, mn9, mn10, mn11, mn12, mn13, mn14, mn15, mn16, mn17⟩ := hm
  unfold f_X10_refuses
  simp (disch := first | assumption | omega) only [litM, grd_t, grd_T, ldI_t, stI_t, ldA_t, stA_t, lenA_t, n_lt_t, n_lt_f, n_le_t, n_le_f, n_eq_t, n_eq_f, if_true, if_false, nI_add, nI_mul, bt_d, bI_z, bI_o, Option.bind_some, Bool.true_eq_false, Bool.false_eq_true, ldR, eq_self, if_true, Option.bind_some, m0, m2]
/-- the rows made of a try -/
theorem m_back {τ : Sh} {Y : Mx} {m : Nat} (hm : mdOK τ m) : f_X10_edited0_58 τ m FU Y (nI 0) = some (nI 1, wF Y (m + 3) (fun j => if 0 ≤ j ∧ j < 0 + 931 then Y.1 (m + 3) (931 + (j - 0)) else Y.1 (m + 3) j)) := by
  obtain ⟨n, e⟩ := cp_loop (F := fun n s k => f_X10_edited0_58 τ m n s (nI k)) (Y := Y) (a := m + 3) (a' := m + 3) (off := 0) (src := 931) (N := 931) (Or.inr (Or.inl (by omega))) (by
    intro n s k hk
    show f_X10_edited0_58 τ m (n + 1) s (nI k) = f_X10_edited0_58 τ m n _ (nI (k + 1))
    rw [f_X10_edited0_58, Nat.zero_add]
    obtain ⟨m0, m1, m2, m3, m4, m5, m6, m7, m8, m9, m10, m11, m12, m13, m14, m15, m16, m17, mq1, mq2, mq3, mq4, mq5, mq6, mq7, mq8, mq9, mq10, mq11, mq12, mq13, mq14, mq15, mq16, mq17, mn1, mn2, mn3, mn4, mn5, mn6, mn7, mn8, mn9, mn10, mn11, mn12, mn13, mn14, mn15, mn16, mn17⟩ := hm
    simp (disch := first | assumption | omega) only [litM, grd_t, grd_T, ldI_t, stI_t, ldA_t, stA_t, lenA_t, n_lt_t, n_lt_f, n_le_t, n_le_f, n_eq_t, n_eq_f, if_true, if_false, nI_add, nI_mul, bt_d, bI_z, bI_o, Option.bind_some, Bool.true_eq_false, Bool.false_eq_true, ldR, eq_self, if_true, Option.bind_some, m0, m3]) (by rw [FU_40000]; omega)
  refine Eq.trans e ?_
  show f_X10_edited0_58 τ m (n + 1) _ (nI 931) = _
  rw [f_X10_edited0_58]
  exact if_pos (Int32.le_refl _)
