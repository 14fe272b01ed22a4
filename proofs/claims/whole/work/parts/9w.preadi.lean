/-! ===== tables ===== -/
theorem m_t74 {τ : Sh} {Y : Mx} {m : Nat} (hm : mdOK τ m) : ∃ Y1, f_X10_tables_74 τ m FU Y (nI 0) = ((f_X10_goes τ Y1 m).bind fun X2 => f_X10_tables_113 τ m FU X2) ∧ Y1.2 = Y.2 ∧ (∀ r, r ≠ m + 3 → Y1.1 r = Y.1 r) ∧ (∀ j, j < 931 → Y1.1 (m + 3) j = Y.1 (m + 3) j) ∧ (∀ j, j < 615 → Y1.1 (m + 3) (931 + j) = nI 0) ∧ (∀ j, 615 ≤ j → j < 931 → Y1.1 (m + 3) (931 + j) = -(nI 1)) := by
  obtain ⟨m0, m1, m2, m3, m4, m5, m6, m7, m8, m9, m10, m11, m12, m13, m14, m15, m16, m17, mq1, mq2, mq3, mq4, mq5, mq6, mq7, mq8, mq9, mq10, mq11, mq12, mq13, mq14, mq15, mq16, mq17, mn1, mn2, mn3, mn4, mn5, mn6, mn7, mn8, mn9, mn10, mn11, mn12, mn13, mn14, mn15, mn16, mn17⟩ := hm
  obtain ⟨n, S, e, w1, w2, w3, w4, w5⟩ := up_loop (fun n (S : Mx) k => f_X10_tables_74 τ m n S (nI k)) 931 (fun k S => S.2 = Y.2 ∧ (∀ r, r ≠ m + 3 → S.1 r = Y.1 r) ∧ (∀ j, j < 931 → S.1 (m + 3) j = Y.1 (m + 3) j) ∧ (∀ j, j < k → j < 615 → S.1 (m + 3) (931 + j) = nI 0) ∧ (∀ j, j < k → 615 ≤ j → S.1 (m + 3) (931 + j) = -(nI 1))) (by
    intro n k S hk ⟨h1, h2, h3, h4, h5⟩
    refine ⟨sI S (m + 3) (931 + k) (if k < 615 then nI 0 else -(nI 1)), ?_, h1, fun r hr => by rw [sI_ne hr]; exact h2 r hr, fun j hj => by rw [sI_nk (by omega)]; exact h3 j hj, fun j hj hj2 => ?_, fun j hj hj2 => ?_⟩
    · show f_X10_tables_74 τ m (n + 1) S (nI k) = f_X10_tables_74 τ m n _ (nI (k + 1))
      rw [f_X10_tables_74]
      unfold f_X10_tables_102
      simp only [litM]
      rw [if_neg (by rw [n_le (by omega) (by omega)]; omega)]
      simp only [ldR, m0, m3, if_true, Option.bind_some, nI_add]
      rw [stA_t mq3 (by omega) (by omega), stA_t mq3 (by omega) (by omega)]
      by_cases q : k < 615
      · rw [if_pos (by rw [n_lt (by omega) (by omega)]; exact q), if_pos q]
      · rw [if_neg (by rw [n_lt (by omega) (by omega)]; exact q), if_neg q]
    · by_cases q : j = k
      · rw [q, sI_eq, if_pos (by omega)]
      · rw [sI_nk (by omega)]; exact h4 j (by omega) hj2
    · by_cases q : j = k
      · rw [q, sI_eq, if_neg (by omega)]
      · rw [sI_nk (by omega)]; exact h5 j (by omega) hj2) FU 0 Y (by omega) ⟨rfl, fun _ _ => rfl, fun _ _ => rfl, fun j hj => absurd hj (Nat.not_lt_zero _), fun j hj => absurd hj (Nat.not_lt_zero _)⟩ (by rw [FU_40000]; omega)
  refine ⟨S, ?_, w1, w2, w3, fun j hj => w4 j (by omega) hj, fun j hj hj2 => w5 j hj2 hj⟩
  refine Eq.trans e ?_
  show f_X10_tables_74 τ m (n + 1) S (nI 931) = _
  rw [f_X10_tables_74]
  exact if_pos (Int32.le_refl _)
theorem m_t172 {τ : Sh} {Y : Mx} {m : Nat} (hm : mdOK τ m) : ∃ Y1, f_X10_tables_170 τ m Y = some (nI 0, Y1) ∧ Y1.2 = Y.2 ∧ (∀ r, r ≠ m → r ≠ m + 3 → Y1.1 r = Y.1 r) ∧ (∀ j, j ≠ 19 → j ≠ 32 → j ≠ 35 → Y1.1 m j = Y.1 m j) ∧ Y1.1 m 19 = nI 0 ∧ Y1.1 m 32 = nI 0 ∧ Y1.1 m 35 = nI 0 ∧ (∀ j, j < 931 → Y1.1 (m + 3) j = Y.1 (m + 3) (931 + j)) := by
  obtain ⟨m0, m1, m2, m3, m4, m5, m6, m7, m8, m9, m10, m11, m12, m13, m14, m15, m16, m17, mq1, mq2, mq3, mq4, mq5, mq6, mq7, mq8, mq9, mq10, mq11, mq12, mq13, mq14, mq15, mq16, mq17, mn1, mn2, mn3, mn4, mn5, mn6, mn7, mn8, mn9, mn10, mn11, mn12, mn13, mn14, mn15, mn16, mn17⟩ := hm
  obtain ⟨n, S, e, w1, w2, w3, w4⟩ := up_loop (fun n (S : Mx) k => f_X10_tables_172 τ m n S (nI k)) 931 (fun k S => S.2 = Y.2 ∧ (∀ r, r ≠ m + 3 → S.1 r = Y.1 r) ∧ (∀ j, 931 ≤ j → S.1 (m + 3) j = Y.1 (m + 3) j) ∧ (∀ j, j < k → S.1 (m + 3) j = Y.1 (m + 3) (931 + j))) (by
    intro n k S hk ⟨h1, h2, h3, h4⟩
    refine ⟨sI S (m + 3) k (Y.1 (m + 3) (931 + k)), ?_, h1, fun r hr => by rw [sI_ne hr]; exact h2 r hr, fun j hj => by rw [sI_nk (by omega)]; exact h3 j hj, fun j hj => ?_⟩
    · show f_X10_tables_172 τ m (n + 1) S (nI k) = f_X10_tables_172 τ m n _ (nI (k + 1))
      rw [f_X10_tables_172]
      simp only [litM]
      rw [if_neg (by rw [n_le (by omega) (by omega)]; omega)]
      simp only [ldR, m0, m3, if_true, Option.bind_some, nI_add]
      rw [ldA_t mq3 (by omega) (by omega), stA_t mq3 (by omega) (by omega), h3 _ (by omega)]
    · by_cases q : j = k
      · rw [q, sI_eq]
      · rw [sI_nk q]; exact h4 j (by omega)) FU 0 Y (by omega) ⟨rfl, fun _ _ => rfl, fun _ _ => rfl, fun j hj => absurd hj (Nat.not_lt_zero _)⟩ (by rw [FU_40000]; omega)
  refine ⟨sI (sI (sI S m 19 (nI 0)) m 32 (nI 0)) m 35 (nI 0), ?_, w1, fun r a b => by rw [sI_ne a, sI_ne a, sI_ne a]; exact w2 r b, fun j a b c => by rw [sI_nk c, sI_nk b, sI_nk a, w2 m (by omega)], by rw [sI_nk (by omega), sI_nk (by omega), sI_eq], by rw [sI_nk (by omega), sI_eq], sI_eq, fun j hj => by rw [sI_na (by omega), sI_na (by omega), sI_na (by omega)]; exact w4 j hj⟩
  unfold f_X10_tables_170
  simp only [litM]
  refine Eq.trans e ?_
  show f_X10_tables_172 τ m (n + 1) S (nI 931) = _
  rw [f_X10_tables_172]
  refine Eq.trans (if_pos (Int32.le_refl _)) ?_
  simp only [litM]
  rw [stI_t m0, stI_t m0, stI_t m0]
theorem c_clear {σ : Sh} {X : Mx} {s L R : Nat} (hs : stOK σ s L R) : ∃ X1, f_X5_clear σ X s = some X1 ∧ X1.2 = X.2 ∧ (∀ r, (r < s ∨ s + 16 < r) → X1.1 r = X.1 r) ∧ X1.1 (s + 1) 0 = nI 0 ∧ X1.1 (s + 1) 1 = nI 0 ∧ (∀ j, j < 180 → X1.1 (s + 1 + 3) j = nI 9999) ∧ X1.1 s 5 = nI 0 := by
  have hb : tabOK σ (s + 1) := hs.2.2.2.2.2.2.2.2.1
  obtain ⟨A, hA⟩ : ∃ A, A = sI (wF (sI (sI X (s + 1) 0 (nI 0)) (s + 1) 1 (nI 0)) (s + 1 + 3) (fun j => if j < 180 then nI 9999 else X.1 (s + 1 + 3) j)) s 5 (nI 0) := ⟨_, rfl⟩
  obtain ⟨X1, a1, a2, a3, a4, a5, a6, a7, a8⟩ := c_start (X := A) hs
  refine ⟨X1, ?_, by rw [a2, hA]; rfl, fun r hr => ?_, ?_, ?_, fun j hj => ?_, ?_⟩
  · unfold f_X5_clear
    simp only [litM]
    rw [grd_t hs.1]
    simp only [ldR, hs.1, hs.2.1, if_true, Option.bind_some]
    rw [s_clear6 hb, Option.bind_some, stI_t hs.1, ← hA, a1, Option.bind_some]
  · rw [a3 r (by omega) (by omega) (by omega), hA, sI_ne (by omega), wF_fn (by omega), sI_ne (by omega), sI_ne (by omega)]
  · rw [a3 _ (by omega) (by omega) (by omega), hA, sI_na (by omega), wF_na (by omega), sI_nk (by omega), sI_eq]
  · rw [a3 _ (by omega) (by omega) (by omega), hA, sI_na (by omega), wF_na (by omega), sI_eq]
  · rw [a3 _ (by omega) (by omega) (by omega), hA, sI_na (by omega), wF_at, if_pos hj]
  · rw [a4 5 (by omega) (by omega), hA, sI_eq]
/-- the reading of n bytes by both, from the start -/
theorem read_both {σ τ : Sh} {X Y : Mx} {tp m n t : Nat} (hp : tpOK σ tp) (hm : mdOK τ m) (ht : t ≤ 700) (hn : n ≤ t) (x1 : X.1 tp 1 = nI t) (y0 : Y.1 m 0 = nI 0) (hb : ∀ j, j < t → Y.1 (m + 1) j = X.1 (tp + 1) j &&& nI 255 ∧ X.1 (tp + 1) j = (X.1 (tp + 1) j).toInt8.toInt32) :
    ∃ X1 Y1, ((f_X7_readTables σ X tp (nI n) = some (nI 0, X1) ∧ f_X10_tables_23 τ m (nI n) Y m (nI 1) = (f_X10_tables_170 τ m Y1) ∧ StR X1.1 (tp + 2) (tp + 2 + 5) (tp + 2 + 9) (Y1.1 (m + 3)) 931 ∧ X1.1 tp 3 = -(nI 1) ∧ Y1.1 m 4 = -(nI 1)) ∨ (∃ f, 1 ≤ f ∧ f ≤ 6 ∧ f_X7_readTables σ X tp (nI n) = some (nI f, X1) ∧ f_X10_tables_23 τ m (nI n) Y m (nI 1) = some (nI f, sI Y1 (m + 2) 0 (Y1.1 (m + 2) 0 + nI 1)) ∧ X1.1 tp 3 = Y1.1 m 4)) ∧ X1.2 = X.2 ∧ (∀ r, r ≠ tp → (r < tp + 2 ∨ tp + 18 < r) → X1.1 r = X.1 r) ∧ X1.1 tp 1 = nI 0 ∧ (∀ r, r ≠ m → Y1.2 r = Y.2 r) ∧ (∀ r, r ≠ m → r ≠ m + 3 → Y1.1 r = Y.1 r) ∧ (∀ j, (j < 2 ∨ 16 < j) → Y1.1 m j = Y.1 m j) ∧ Y1.1 m 2 = nI 0 ∧ (∀ j, j < 931 → Y1.1 (m + 3) j = Y.1 (m + 3) j) := by
  have t0 := hp.1
  have t2 : shR σ tp 2 = some (tp + 2) := hp.2.2.1
  have m0 := hm.1
  have hS := told_sk hp
  obtain ⟨β, hβ⟩ : ∃ β : Nat → Nat, β = fun j => (Y.1 (m + 1) j).toBitVec.toNat := ⟨_, rfl⟩
  have hB : ∀ j, j < n → β j < 256 ∧ Y.1 (m + 1) j = nI (β j) ∧ X.1 (tp + 1) j = sx (β j) := fun j hj => by
    obtain ⟨b1, b2⟩ := hb j (by omega)
    obtain ⟨k, k1, k2, k3⟩ := byte_ex b2
    have e : β j = k := by
      rw [hβ]
      show (Y.1 (m + 1) j).toBitVec.toNat = k
      rw [b1, k2, nI_bv, BitVec.toNat_ofNat, Nat.mod_eq_of_lt (by omega)]
    rw [e]
    exact ⟨k1, b1.trans k2, k3⟩
  -- the class begins
  obtain ⟨A, hA⟩ : ∃ A, A = sI (sI (sI (sI (sI (sI (sI X tp 5 (nI n)) tp 1 (nI 0)) tp 4 (nI 0)) tp 3 (-(nI 1))) tp 8 (nI 0)) tp 9 (nI 0)) tp 10 (nI 0) := ⟨_, rfl⟩
  have ar : ∀ r, r ≠ tp → A.1 r = X.1 r := fun r hr => by rw [hA, sI_ne hr, sI_ne hr, sI_ne hr, sI_ne hr, sI_ne hr, sI_ne hr, sI_ne hr]
  obtain ⟨B, c1, c2, c3, c4, c5, c6, c7⟩ := c_clear (X := A) hS
  have bt0 : ∀ j, B.1 tp j = A.1 tp j := fun j => by rw [c3 tp (by omega)]
  have b5 : B.1 tp 5 = nI n := by rw [bt0, hA, sI_nk (by omega), sI_nk (by omega), sI_nk (by omega), sI_nk (by omega), sI_nk (by omega), sI_nk (by omega), sI_eq]
  have b1' : B.1 tp 1 = nI 0 := by rw [bt0, hA, sI_nk (by omega), sI_nk (by omega), sI_nk (by omega), sI_nk (by omega), sI_nk (by omega), sI_eq]
  have b4 : B.1 tp 4 = nI 0 := by rw [bt0, hA, sI_nk (by omega), sI_nk (by omega), sI_nk (by omega), sI_nk (by omega), sI_eq]
  have b3 : B.1 tp 3 = -(nI 1) := by rw [bt0, hA, sI_nk (by omega), sI_nk (by omega), sI_nk (by omega), sI_eq]
  have b8 : B.1 tp 8 = nI 0 := by rw [bt0, hA, sI_nk (by omega), sI_nk (by omega), sI_eq]
  have b9 : B.1 tp 9 = nI 0 := by rw [bt0, hA, sI_nk (by omega), sI_eq]
  have b10 : B.1 tp 10 = nI 0 := by rw [bt0, hA, sI_eq]
  -- the reference begins
  obtain ⟨C, hC⟩ : ∃ C, C = sI (sI (sI (sI (sI (sI (sI (sI Y m 2 (nI 0)) m 4 (-(nI 1))) m 3 (nI 0)) m 6 (nI n)) m 7 (nI 0)) m 14 (nI 0)) m 15 (nI 0)) m 16 (nI 0) := ⟨_, rfl⟩
  have cr : ∀ r, r ≠ m → C.1 r = Y.1 r := fun r hr => by rw [hC, sI_ne hr, sI_ne hr, sI_ne hr, sI_ne hr, sI_ne hr, sI_ne hr, sI_ne hr, sI_ne hr]
  have cm : ∀ j, (j < 2 ∨ 16 < j) → C.1 m j = Y.1 m j := fun j hj => by rw [hC, sI_nk (by omega), sI_nk (by omega), sI_nk (by omega), sI_nk (by omega), sI_nk (by omega), sI_nk (by omega), sI_nk (by omega), sI_nk (by omega)]
  obtain ⟨D, d1, d2, d3, d4, d5, d6⟩ := m_t74 (Y := C) hm
  have dm : ∀ j, D.1 m j = C.1 m j := fun j => by rw [d3 m (by omega)]
  have y2 : D.1 m 2 = nI 0 := by rw [dm, hC, sI_nk (by omega), sI_nk (by omega), sI_nk (by omega), sI_nk (by omega), sI_nk (by omega), sI_nk (by omega), sI_nk (by omega), sI_eq]
  have y4 : D.1 m 4 = -(nI 1) := by rw [dm, hC, sI_nk (by omega), sI_nk (by omega), sI_nk (by omega), sI_nk (by omega), sI_nk (by omega), sI_nk (by omega), sI_eq]
  have y3 : D.1 m 3 = nI 0 := by rw [dm, hC, sI_nk (by omega), sI_nk (by omega), sI_nk (by omega), sI_nk (by omega), sI_nk (by omega), sI_eq]
  have y6 : D.1 m 6 = nI n := by rw [dm, hC, sI_nk (by omega), sI_nk (by omega), sI_nk (by omega), sI_nk (by omega), sI_eq]
  have y7 : D.1 m 7 = nI 0 := by rw [dm, hC, sI_nk (by omega), sI_nk (by omega), sI_nk (by omega), sI_eq]
  have y14 : D.1 m 14 = nI 0 := by rw [dm, hC, sI_nk (by omega), sI_nk (by omega), sI_eq]
  have y15 : D.1 m 15 = nI 0 := by rw [dm, hC, sI_nk (by omega), sI_eq]
  have y16 : D.1 m 16 = nI 0 := by rw [dm, hC, sI_eq]
  have hBR : BR B.1 D.1 tp m n β := ⟨by omega, fun j hj => by
    rw [d3 (m + 1) (by omega), cr (m + 1) (by omega), c3 (tp + 1) (by omega), ar (tp + 1) (by omega)]
    exact hB j hj⟩
  obtain ⟨st, be, E, F, s1, s2, s3, s4, s5, s6⟩ := step_both hp hm hBR b5 b8 y6 y7 (by omega)
  have hG : GdR E F tp m n β st be := ⟨hBR.fr (s4.2.1 _ (by omega)) (s5.2.1 _ (by omega)), ⟨by rw [s4.2.2 5 (by omega) (by omega) (by omega)]; exact b5, by rw [s4.2.2 3 (by omega) (by omega) (by omega)]; exact b3, by rw [s5.2.2 4 (by omega)]; exact y4⟩, by rw [s5.2.2 6 (by omega)]; exact y6, by rw [s4.2.2 4 (by omega) (by omega) (by omega)]; exact b4, by rw [s5.2.2 3 (by omega)]; exact y3, s6⟩
  have hBs0 : BsR B D tp m 0 0 0 := by
    have z : (nI 0 : Int32) = 0 := rfl
    have w0 : ∀ j, j < 615 → D.1 (m + 3) (931 + j) = nI 0 := d5
    refine ⟨⟨?_, ?_, ?_, ?_, fun c hc hb => ?_, fun k c hk hc hbk => ?_, fun k c hk hc _ => c6 _ (by omega)⟩, fun c => ?_, by omega, ?_, by omega, y14, y15, b9, b10, y16, by omega, c7, w0 600 (by omega), fun i hi => absurd hi (Nat.not_lt_zero _), w0 613 (by omega), w0 614 (by omega), fun i hi => ?_⟩
    · rw [c4]; exact (w0 400 (by omega)).symm
    · rw [c5]; exact (w0 401 (by omega)).symm
    · rw [c4, z]; exact low_0 9
    · rw [c5, z]; exact low_0 20
    · rw [c4, z, bt_zero] at hb; cases hb
    · rw [c5, z, bt_zero] at hbk; cases hbk
    · rw [c4, z, bt_zero]; exact (decide_eq_false (Nat.not_lt_zero _)).symm
    · rw [c5]; decide
    · rw [show 931 + 615 + i = 931 + (615 + i) by omega]; exact d6 _ (by omega) (by omega)
  have hBs := hBs0.tk s4.tk s5.mk
  obtain ⟨X1, Y1, l1, l2, l3, l4, l5⟩ := rd_loop hp hm 700 0 FU FU E F (by omega) (by rw [FU_40000]; omega) (by rw [FU_40000]; omega) (Or.inl ⟨st, be, by omega, hG, Or.inl ⟨0, 0, 0, hBs⟩⟩)
  have lX : LF B X1 tp := s4.tk.lf.trans l3
  have lY : LM D Y1 m := s5.mk.lm.trans l4
  have cl : f_X7_readTables σ X tp (nI n) = f_X7_readTables_90 σ tp X1 := by
    have mn : f_J9_max_7cf53 (nI 0) (f_J9_min_7cf53 (nI n) (nI t)) = nI n := by
      unfold f_J9_max_7cf53 f_J9_min_7cf53
      rw [if_neg (show ¬ nI t < nI n by rw [n_lt (by omega) (by omega)]; omega)]
      by_cases q : 0 < n
      · rw [if_pos (by rw [n_lt (by omega) (by omega)]; exact q)]
      · rw [if_neg (by rw [n_lt (by omega) (by omega)]; exact q), show n = 0 by omega]
    unfold f_X7_readTables
    simp only [litM]
    rw [grd_t t0, ldI_t t0, x1, mn, stI_t t0, stI_t t0, stI_t t0, stI_t t0, stI_t t0, stI_t t0, stI_t t0, ← hA]
    simp only [ldR, t0, t2, if_true, Option.bind_some]
    rw [c1, Option.bind_some, s2, Option.bind_some]
    exact l1
  have md : f_X10_tables_23 τ m (nI n) Y m (nI 1) = f_X10_tables_134 τ m Y1 := by
    unfold f_X10_tables_23
    simp only [litM]
    rw [s10_rt hm y0 (Or.inl rfl), bnd2_k, if_neg (by decide), stI_t m0, stI_t m0, stI_t m0, stI_t m0, stI_t m0, stI_t m0, stI_t m0, stI_t m0, ← hC, d1, s3, Option.bind_some]
    exact l2
  have gx : ∀ r, r ≠ tp → (r < tp + 2 ∨ tp + 18 < r) → X1.1 r = X.1 r := fun r a b => by rw [lX.2.1 r a b, c3 r (by omega), ar r a]
  have gx2 : X1.2 = X.2 := by rw [lX.1, c2, hA]; rfl
  have gx1 : X1.1 tp 1 = nI 0 := by rw [lX.2.2, b1']
  have gy2 : ∀ r, r ≠ m → Y1.2 r = Y.2 r := fun r a => by rw [lY.1 r a, d2, hC]; rfl
  have gy : ∀ r, r ≠ m → r ≠ m + 3 → Y1.1 r = Y.1 r := fun r a b => by rw [lY.2.1 r a b, d3 r b, cr r a]
  have gym : ∀ j, (j < 2 ∨ 16 < j) → Y1.1 m j = Y.1 m j := fun j a => by rw [lY.2.2.1 j (by omega), dm, cm j a]
  have gy2' : Y1.1 m 2 = nI 0 := by rw [lY.2.2.1 2 (by omega), y2]
  have gyr : ∀ j, j < 931 → Y1.1 (m + 3) j = Y.1 (m + 3) j := fun j hj => by rw [lY.2.2.2 j hj, d4 j hj, cr (m + 3) (by omega)]
  rcases l5 with ⟨st1, be1, hG1, hT1⟩ | hd
  · have x4 : X1.1 tp 4 = nI 0 := hG1.2.2.2.1
    have m134 : f_X10_tables_134 τ m Y1 = (if Y1.1 m 16 = nI 0 then (f_X10_sidesBegin τ Y1 m (nI 931)).bind fun X5 => f_X10_tables_170 τ m X5 else f_X10_tables_170 τ m Y1) := by
      unfold f_X10_tables_134
      simp only [litM]
      rw [m_good_t hm hG1.2.2.2.2.1, Option.bind_some, if_neg (by decide), ldI_t m0]
    rcases hT1 with ⟨nc, nr, d, hB1⟩ | ⟨hE, x10, ec, e1, e2, e3⟩
    · obtain ⟨X2, Y2, a1, a2, a3, a4, a5, a6, a7, a8⟩ := hB1.sides hp hm
      refine ⟨X2, Y2, Or.inl ⟨?_, ?_, a8, ?_, ?_⟩, a3.trans gx2, fun r c d => by rw [a4 r (by omega) (by omega) (by omega)]; exact gx r c d, by rw [a4 tp (by omega) (by omega) (by omega)]; exact gx1, fun r c => by rw [a5]; exact gy2 r c, fun r c d => by rw [a6 r d]; exact gy r c d, fun j c => by rw [a6 m (by omega)]; exact gym j c, by rw [a6 m (by omega)]; exact gy2', fun j hj => by rw [a7 j hj]; exact gyr j hj⟩
      · rw [cl]
        unfold f_X7_readTables_90
        simp only [litM]
        rw [ldI_t t0, hB1.2.2.2.2.2.2.2.2.1, if_pos rfl]
        simp only [ldR, t0, t2, if_true, Option.bind_some]
        rw [a1, Option.bind_some, ldI_t t0, a4 tp (by omega) (by omega) (by omega), x4]
      · rw [md, m134, hB1.2.2.2.2.2.2.2.2.2.1, if_pos rfl, a2, Option.bind_some]
      · rw [a4 tp (by omega) (by omega) (by omega)]; exact hG1.2.1.2.1
      · rw [a6 m (by omega)]; exact hG1.2.1.2.2
    · refine ⟨X1, Y1, Or.inl ⟨?_, ?_, hE, hG1.2.1.2.1, hG1.2.1.2.2⟩, gx2, gx, gx1, gy2, gy, gym, gy2', gyr⟩
      · rw [cl]
        unfold f_X7_readTables_90
        simp only [litM]
        rw [ldI_t t0, x10, if_neg (by decide), ldI_t t0, x4]
      · rw [md, m134, e3, if_neg (nI_ne (by omega) (by omega) (by omega))]
  · obtain ⟨hc, f, f1, f2, f3, f4, f5⟩ := id hd
    have e90 : ∃ X2, f_X7_readTables_90 σ tp X1 = some (nI f, X2) ∧ X2.2 = X1.2 ∧ (∀ r, (r < tp + 2 ∨ tp + 18 < r) → X2.1 r = X1.1 r) := by
      unfold f_X7_readTables_90
      simp only [litM]
      rw [ldI_t t0, ldI_t t0, f3]
      simp only [ldR, t0, t2, if_true, Option.bind_some]
      by_cases q : X1.1 tp 10 = nI 0
      · obtain ⟨X2, a1, a2, a3, -⟩ := c_start (X := X1) hS
        rw [if_pos q, a1, Option.bind_some, ldI_t t0, a3 tp (by omega) (by omega) (by omega), f3]
        exact ⟨X2, rfl, a2, fun r hr => a3 r (by omega) (by omega) (by omega)⟩
      · rw [if_neg q]; exact ⟨X1, rfl, rfl, fun _ _ => rfl⟩
    obtain ⟨X2, a1, a2, a3⟩ := e90
    refine ⟨X2, Y1, Or.inr ⟨f, f1, f2, cl.trans a1, ?_, ?_⟩, a2.trans gx2, fun r c d => by rw [a3 r d]; exact gx r c d, by rw [a3 tp (by omega)]; exact gx1, gy2, gy, gym, gy2', gyr⟩
    · rw [md]
      unfold f_X10_tables_134
      simp only [litM]
      rw [m_good_f hm hd.ny, Option.bind_some, if_pos rfl]
      obtain ⟨m0, m1, m2, m3, m4, m5, m6, m7, m8, m9, m10, m11, m12, m13, m14, m15, m16, m17, mq1, mq2, mq3, mq4, mq5, mq6, mq7, mq8, mq9, mq10, mq11, mq12, mq13, mq14, mq15, mq16, mq17, mn1, mn2, mn3, mn4, mn5, mn6, mn7, mn8, mn9, mn10, mn11, mn12, mn13, mn14, mn15, mn16, mn17⟩ := hm
      simp only [ldR, m0, m2, if_true, Option.bind_some]
      rw [ldA_t mq2 (by omega) (by omega), stA_t mq2 (by omega) (by omega), ldI_t m0, sI_na (by omega), f4]
    · rw [a3 tp (by omega)]; exact f5
