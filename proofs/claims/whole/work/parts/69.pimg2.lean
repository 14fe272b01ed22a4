/-! ===== image ===== -/
theorem sn_copy {σ : Sh} {X : Mx} {n n' : Nat} (h : snOK σ n) (h' : snOK σ n') (hd : n + 3 < n' ∨ n' + 3 < n) : ∃ Z, f_X4_copyFrom σ X n' n = some Z ∧ FrX X Z n' (n' + 3) ∧ Z.1 n' 0 = X.1 n 0 ∧ (∀ j, j < 8 → Z.1 (n' + 1) j = X.1 (n + 1) j) ∧ (∀ j, j < 8 → Z.1 (n' + 2) j = X.1 (n + 2) j) ∧ (∀ j, j < 8 → Z.1 (n' + 3) j = X.1 (n + 3) j) := by
  obtain ⟨n0, n1, n2, n3, n4, n5, n6, n7, n8, n9⟩ := h
  obtain ⟨p0, p1, p2, p3, p4, p5, p6, p7, p8, p9⟩ := h'
  refine ⟨cpX (cpX (cpX (sI X n' 0 (X.1 n 0)) (n + 1) 0 (n' + 1) 0 8) (n + 2) 0 (n' + 2) 0 8) (n + 3) 0 (n' + 3) 0 8, ?_, ⟨rfl, fun q hq => ?_⟩, ?_, fun j hj => ?_, fun j hj => ?_, fun j hj => ?_⟩
  · unfold f_X4_copyFrom
    simp (disch := first | assumption | omega) only [litM, grd_t, grd_T, ldI_t, stI_t, ldA_t, stA_t, lenA_t, n_lt_t, n_lt_f, n_le_t, n_le_f, n_eq_t, n_eq_f, if_true, if_false, nI_add, nI_mul, bt_d, bI_z, bI_o, Option.bind_some, Bool.true_eq_false, Bool.false_eq_true, ldR, eq_self, if_true, Option.bind_some, n0, n1, n2, n3, p0, p1, p2, p3, cpA_t]
  · rw [cpX_fn (by omega), cpX_fn (by omega), cpX_fn (by omega), sI_ne (by omega)]
  · rw [cpX_fn (by omega), cpX_fn (by omega), cpX_fn (by omega), sI_eq]
  · rw [cpX_fn (by omega), cpX_fn (by omega), cpX_in hj, sI_na (by omega)]
  · rw [cpX_fn (by omega), cpX_in hj, cpX_fn (by omega), sI_na (by omega)]
  · rw [cpX_in hj, cpX_fn (by omega), cpX_fn (by omega), sI_na (by omega)]
theorem SeenR.cp {X Z : Nat → Nat → Int32} {n n' ar ar' : Nat} {c c' : Int32} (h : SeenR X n c ar) (h0 : Z n' 0 = X n 0) (h1 : ∀ j, j < 8 → Z (n' + 1) j = X (n + 1) j) (h2 : ∀ j, j < 8 → Z (n' + 2) j = X (n + 2) j) (h3 : ∀ j, j < 8 → Z (n' + 3) j = X (n + 3) j) (hc : c' = c) (ha : ∀ j, j < 24 → Z ar' j = X ar j) : SeenR Z n' c' ar' := by
  obtain ⟨k, k1, k2, k3, k4⟩ := h
  refine ⟨k, k1, h0.trans k2, hc.trans k3, fun i hi => ?_⟩
  rw [h1 i (by omega), h2 i (by omega), h3 i (by omega), ha _ (by omega), ha _ (by omega), ha _ (by omega)]
  exact k4 i hi
theorem m_cp {τ : Sh} {Y : Mx} {m : Nat} (hm : mdOK τ m) : ∃ Y1, f_X10_image_28 τ m FU Y (nI 0) = some Y1 ∧ Y1.2 = Y.2 ∧ (∀ q, (q < m + 15 ∨ m + 17 < q) → Y1.1 q = Y.1 q) ∧ (∀ j, j < 931 → Y1.1 (m + 15) j = Y.1 (m + 3) j) ∧ (∀ j, j < 27930 → Y1.1 (m + 16) j = Y.1 (m + 4) j) ∧ (∀ j, j < 24 → Y1.1 (m + 17) j = Y.1 (m + 14) j) := by
  obtain ⟨n, e⟩ := cp_loop (F := fun n s k => f_X10_image_28 τ m n s (nI k)) (Y := Y) (a := m + 15) (a' := m + 3) (off := 0) (src := 0) (N := 931) (Or.inl (by omega)) (by
    intro n s k hk
    show f_X10_image_28 τ m (n + 1) s (nI k) = f_X10_image_28 τ m n _ (nI (k + 1))
    rw [f_X10_image_28, Nat.zero_add]
    obtain ⟨m0, m1, m2, m3, m4, m5, m6, m7, m8, m9, m10, m11, m12, m13, m14, m15, m16, m17, mq1, mq2, mq3, mq4, mq5, mq6, mq7, mq8, mq9, mq10, mq11, mq12, mq13, mq14, mq15, mq16, mq17, mn1, mn2, mn3, mn4, mn5, mn6, mn7, mn8, mn9, mn10, mn11, mn12, mn13, mn14, mn15, mn16, mn17⟩ := hm
    simp (disch := first | assumption | omega) only [litM, grd_t, grd_T, ldI_t, stI_t, ldA_t, stA_t, lenA_t, n_lt_t, n_lt_f, n_le_t, n_le_f, n_eq_t, n_eq_f, if_true, if_false, nI_add, nI_mul, bt_d, bI_z, bI_o, Option.bind_some, Bool.true_eq_false, Bool.false_eq_true, ldR, eq_self, if_true, Option.bind_some, m0, m3, m15]) (by rw [FU_40000]; omega)
  obtain ⟨Ya, hYa⟩ : ∃ Ya, Ya = wF Y (m + 15) (fun j => if 0 ≤ j ∧ j < 0 + 931 then Y.1 (m + 3) (0 + (j - 0)) else Y.1 (m + 15) j) := ⟨_, rfl⟩
  obtain ⟨Yb, hYb⟩ : ∃ Yb, Yb = wF Ya (m + 16) (fun j => if 0 ≤ j ∧ j < 0 + 27930 then Ya.1 (m + 4) (0 + (j - 0)) else Ya.1 (m + 16) j) := ⟨_, rfl⟩
  obtain ⟨Yc, hYc⟩ : ∃ Yc, Yc = wF Yb (m + 17) (fun j => if 0 ≤ j ∧ j < 0 + 24 then Yb.1 (m + 14) (0 + (j - 0)) else Yb.1 (m + 17) j) := ⟨_, rfl⟩
  have hm' := hm
  obtain ⟨m0, m1, m2, m3, m4, m5, m6, m7, m8, m9, m10, m11, m12, m13, m14, m15, m16, m17, mq1, mq2, mq3, mq4, mq5, mq6, mq7, mq8, mq9, mq10, mq11, mq12, mq13, mq14, mq15, mq16, mq17, mn1, mn2, mn3, mn4, mn5, mn6, mn7, mn8, mn9, mn10, mn11, mn12, mn13, mn14, mn15, mn16, mn17⟩ := hm
  have eb := m_copies (Y := Ya) m0 mq4 mq16 mn4 mn16 (by omega) (by omega)
  have ec := m_copies (Y := Yb) m0 mq14 mq17 mn14 mn17 (by omega) (by omega)
  rw [← hYb] at eb
  rw [← hYc] at ec
  refine ⟨Yc, ?_, by rw [hYc, hYb, hYa]; rfl, fun q hq => by rw [hYc, wF_fn (by omega), hYb, wF_fn (by omega), hYa, wF_fn (by omega)], fun j hj => ?_, fun j hj => ?_, fun j hj => ?_⟩
  · refine Eq.trans e ?_
    rw [← hYa]
    show f_X10_image_28 τ m (n + 1) Ya (nI 931) = _
    rw [f_X10_image_28]
    refine Eq.trans (if_pos (Int32.le_refl _)) ?_
    simp only [ldR, m0, m4, m14, m16, m17, if_true, Option.bind_some]
    rw [eb, Option.bind_some, ec, Option.bind_some]
  · rw [hYc, wF_fn (by omega), hYb, wF_fn (by omega), hYa, wF_at, if_pos (by omega), Nat.zero_add, Nat.sub_zero]
  · rw [hYc, wF_fn (by omega), hYb, wF_at, if_pos (by omega), Nat.zero_add, Nat.sub_zero, hYa, wF_fn (by omega)]
  · rw [hYc, wF_at, if_pos (by omega), Nat.zero_add, Nat.sub_zero, hYb, wF_fn (by omega), hYa, wF_fn (by omega)]
theorem m_cp2 {τ : Sh} {Y : Mx} {m : Nat} (hm : mdOK τ m) : ∃ Y1, f_X10_restore_32 τ m FU Y (nI 0) = some (nI 1, Y1) ∧ Y1.2 = Y.2 ∧ (∀ q, q ≠ m + 3 → q ≠ m + 4 → q ≠ m + 14 → Y1.1 q = Y.1 q) ∧ (∀ j, j < 931 → Y1.1 (m + 3) j = Y.1 (m + 15) j) ∧ (∀ j, j < 27930 → Y1.1 (m + 4) j = Y.1 (m + 16) j) ∧ (∀ j, j < 24 → Y1.1 (m + 14) j = Y.1 (m + 17) j) := by
  obtain ⟨n, e⟩ := cp_loop (F := fun n s k => f_X10_restore_32 τ m n s (nI k)) (Y := Y) (a := m + 3) (a' := m + 15) (off := 0) (src := 0) (N := 931) (Or.inl (by omega)) (by
    intro n s k hk
    show f_X10_restore_32 τ m (n + 1) s (nI k) = f_X10_restore_32 τ m n _ (nI (k + 1))
    rw [f_X10_restore_32, Nat.zero_add]
    obtain ⟨m0, m1, m2, m3, m4, m5, m6, m7, m8, m9, m10, m11, m12, m13, m14, m15, m16, m17, mq1, mq2, mq3, mq4, mq5, mq6, mq7, mq8, mq9, mq10, mq11, mq12, mq13, mq14, mq15, mq16, mq17, mn1, mn2, mn3, mn4, mn5, mn6, mn7, mn8, mn9, mn10, mn11, mn12, mn13, mn14, mn15, mn16, mn17⟩ := hm
    simp (disch := first | assumption | omega) only [litM, grd_t, grd_T, ldI_t, stI_t, ldA_t, stA_t, lenA_t, n_lt_t, n_lt_f, n_le_t, n_le_f, n_eq_t, n_eq_f, if_true, if_false, nI_add, nI_mul, bt_d, bI_z, bI_o, Option.bind_some, Bool.true_eq_false, Bool.false_eq_true, ldR, eq_self, if_true, Option.bind_some, m0, m3, m15]) (by rw [FU_40000]; omega)
  obtain ⟨Ya, hYa⟩ : ∃ Ya, Ya = wF Y (m + 3) (fun j => if 0 ≤ j ∧ j < 0 + 931 then Y.1 (m + 15) (0 + (j - 0)) else Y.1 (m + 3) j) := ⟨_, rfl⟩
  obtain ⟨Yb, hYb⟩ : ∃ Yb, Yb = wF Ya (m + 4) (fun j => if 0 ≤ j ∧ j < 0 + 27930 then Ya.1 (m + 16) (0 + (j - 0)) else Ya.1 (m + 4) j) := ⟨_, rfl⟩
  obtain ⟨Yc, hYc⟩ : ∃ Yc, Yc = wF Yb (m + 14) (fun j => if 0 ≤ j ∧ j < 0 + 24 then Yb.1 (m + 17) (0 + (j - 0)) else Yb.1 (m + 14) j) := ⟨_, rfl⟩
  obtain ⟨m0, m1, m2, m3, m4, m5, m6, m7, m8, m9, m10, m11, m12, m13, m14, m15, m16, m17, mq1, mq2, mq3, mq4, mq5, mq6, mq7, mq8, mq9, mq10, mq11, mq12, mq13, mq14, mq15, mq16, mq17, mn1, mn2, mn3, mn4, mn5, mn6, mn7, mn8, mn9, mn10, mn11, mn12, mn13, mn14, mn15, mn16, mn17⟩ := hm
  have eb := m_copies (Y := Ya) m0 mq16 mq4 mn16 mn4 (by omega) (by omega)
  have ec := m_copies (Y := Yb) m0 mq17 mq14 mn17 mn14 (by omega) (by omega)
  rw [← hYb] at eb
  rw [← hYc] at ec
  refine ⟨Yc, ?_, by rw [hYc, hYb, hYa]; rfl, fun q h1 h2 h3 => by rw [hYc, wF_fn (by omega), hYb, wF_fn (by omega), hYa, wF_fn (by omega)], fun j hj => ?_, fun j hj => ?_, fun j hj => ?_⟩
  · refine Eq.trans e ?_
    rw [← hYa]
    show f_X10_restore_32 τ m (n + 1) Ya (nI 931) = _
    rw [f_X10_restore_32]
    refine Eq.trans (if_pos (Int32.le_refl _)) ?_
    simp only [ldR, m0, m4, m14, m16, m17, if_true, Option.bind_some]
    rw [eb, Option.bind_some, ec, Option.bind_some]
    rfl
  · rw [hYc, wF_fn (by omega), hYb, wF_fn (by omega), hYa, wF_at, if_pos (by omega), Nat.zero_add, Nat.sub_zero]
  · rw [hYc, wF_fn (by omega), hYb, wF_at, if_pos (by omega), Nat.zero_add, Nat.sub_zero, hYa, wF_fn (by omega)]
  · rw [hYc, wF_at, if_pos (by omega), Nat.zero_add, Nat.sub_zero, hYb, wF_fn (by omega), hYa, wF_fn (by omega)]
