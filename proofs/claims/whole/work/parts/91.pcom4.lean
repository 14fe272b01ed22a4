/-! ===== commit: the sides begin anew ===== -/
theorem c_start {σ : Sh} {X : Mx} {s L R : Nat} (hs : stOK σ s L R) : ∃ X1, f_X5_startSides σ X s = some X1 ∧ X1.2 = X.2 ∧ (∀ q, q ≠ s → (q < s + 5 ∨ s + 12 < q) → q ≠ s + 16 → X1.1 q = X.1 q) ∧ (∀ j, j ≠ 3 → j ≠ 4 → X1.1 s j = X.1 s j) ∧ X1.1 s 3 = nI 0 ∧ X1.1 s 4 = nI 0 ∧ (∀ t, t = L ∨ t = R → X1.1 t 0 = X.1 (s + 1) 0 ∧ X1.1 t 1 = X.1 (s + 1) 1 ∧ (∀ j, j < 9 → X1.1 (t + 1) j = X.1 (s + 1 + 1) j) ∧ (∀ j, j < 9 → X1.1 (t + 2) j = X.1 (s + 1 + 2) j) ∧ (∀ j, j < 180 → X1.1 (t + 3) j = X.1 (s + 1 + 3) j)) ∧ (∀ j, j < 316 → X1.1 (s + 16) j = -(nI 1)) := by
  have lr := hs.lr
  obtain ⟨s0, s1, s2, s3, s4, s5, s6, s7, s8, s9, s10, s11, s12, s13, s14, s15, s16, s17, s18⟩ := hs
  obtain ⟨A, a1, a2, a3, a4, a5, a6, a7, a8⟩ := s_copy6 (X := X) s9 s8 (by omega)
  obtain ⟨B, b1, b2, b3, b4, b5, b6, b7, b8⟩ := s_copy6 (X := A) s10 s8 (by omega)
  obtain ⟨C, hC⟩ : ∃ C, C = sI (sI B s 3 (nI 0)) s 4 (nI 0) := ⟨_, rfl⟩
  obtain ⟨D, hD⟩ : ∃ D, D = wF C (s + 16) (fun j => if j < shN σ (s + 16) then -(nI 1) else C.1 (s + 16) j) := ⟨_, rfl⟩
  have cq : ∀ q, q ≠ s → C.1 q = B.1 q := fun q hq => by rw [hC, sI_ne hq, sI_ne hq]
  have dq : ∀ q, q ≠ s + 16 → D.1 q = C.1 q := fun q hq => by rw [hD, wF_fn hq]
  have bb : ∀ q, (q < s + 5 ∨ s + 12 < q) → B.1 q = X.1 q := fun q hq => by rw [b3 q (by omega), a3 q (by omega)]
  refine ⟨D, ?_, by rw [hD, wF_2, hC]; exact b2.trans a2, fun q q1 q2 q3 => by rw [dq q q3, cq q q1, bb q q2], fun j j1 j2 => by rw [dq s (by omega), hC, sI_nk j2, sI_nk j1, bb s (by omega)], by rw [dq s (by omega), hC, sI_nk (by omega), sI_eq], by rw [dq s (by omega), hC, sI_eq], fun t ht => ?_, fun j hj => by rw [hD, wF_at, if_pos (by rw [s17.2]; exact hj)]⟩
  · unfold f_X5_startSides
    simp only [litM]
    rw [grd_t s0]
    simp only [ldR, s0, s1, s2, s3, s7, if_true, Option.bind_some]
    rw [a1, Option.bind_some, b1, Option.bind_some, stI_t s0, stI_t s0, ← hC, s_fill s17.1 (by rw [s17.2]; omega), Option.bind_some, ← hD]
  · have e : ∀ i, i < 4 → D.1 (t + i) = B.1 (t + i) := fun i hi => by rw [dq _ (by omega), cq _ (by omega)]
    rw [show D.1 t = B.1 t from e 0 (by omega), e 1 (by omega), e 2 (by omega), e 3 (by omega)]
    rcases ht with rfl | rfl
    · have g : ∀ i, i < 4 → B.1 (t + i) = A.1 (t + i) := fun i hi => b3 _ (by omega)
      rw [show B.1 t = A.1 t from g 0 (by omega), g 1 (by omega), g 2 (by omega), g 3 (by omega)]
      exact ⟨a4, a5, a6, a7, a8⟩
    · have g : ∀ i, i < 4 → A.1 (s + 1 + i) = X.1 (s + 1 + i) := fun i hi => a3 _ (by omega)
      rw [show A.1 (s + 1) = X.1 (s + 1) from g 0 (by omega)] at b4 b5
      rw [g 1 (by omega)] at b6
      rw [g 2 (by omega)] at b7
      rw [g 3 (by omega)] at b8
      exact ⟨b4, b5, b6, b7, b8⟩
theorem m_sides {τ : Sh} {Y : Mx} {m : Nat} (hm : mdOK τ m) : ∃ Y1, f_X10_sidesBegin τ Y m (nI 0) = some Y1 ∧ Y1.2 = Y.2 ∧ (∀ q, q ≠ m + 3 → Y1.1 q = Y.1 q) ∧ (∀ j, 400 ≤ j → Y1.1 (m + 3) j = Y.1 (m + 3) j) ∧ (∀ j, j < 200 → Y1.1 (m + 3) j = Y.1 (m + 3) (400 + j) ∧ Y1.1 (m + 3) (200 + j) = Y.1 (m + 3) (400 + j)) := by
  obtain ⟨m0, m1, m2, m3, m4, m5, m6, m7, m8, m9, m10, m11, m12, m13, m14, m15, m16, m17, mq1, mq2, mq3, mq4, mq5, mq6, mq7, mq8, mq9, mq10, mq11, mq12, mq13, mq14, mq15, mq16, mq17, mn1, mn2, mn3, mn4, mn5, mn6, mn7, mn8, mn9, mn10, mn11, mn12, mn13, mn14, mn15, mn16, mn17⟩ := hm
  obtain ⟨n, S, e, w1, w2, w3, w4⟩ := up_loop (fun n (S : Mx) k => f_X10_sidesBegin_2 τ m (nI 0) n S (nI k)) 200 (fun k S => S.2 = Y.2 ∧ (∀ q, q ≠ m + 3 → S.1 q = Y.1 q) ∧ (∀ j, 400 ≤ j → S.1 (m + 3) j = Y.1 (m + 3) j) ∧ (∀ j, j < k → S.1 (m + 3) j = Y.1 (m + 3) (400 + j) ∧ S.1 (m + 3) (200 + j) = Y.1 (m + 3) (400 + j))) (by
    intro n k S hk ⟨h1, h2, h3, h4⟩
    refine ⟨sI (sI S (m + 3) k (Y.1 (m + 3) (400 + k))) (m + 3) (200 + k) (Y.1 (m + 3) (400 + k)), ?_, h1, fun q hq => by rw [sI_ne hq, sI_ne hq]; exact h2 q hq, fun j hj => by rw [sI_nk (by omega), sI_nk (by omega)]; exact h3 j hj, fun j hj => ?_⟩
    · show f_X10_sidesBegin_2 τ m (nI 0) (n + 1) S (nI k) = f_X10_sidesBegin_2 τ m (nI 0) n _ (nI (k + 1))
      rw [f_X10_sidesBegin_2]
      simp only [litM]
      rw [if_neg (by rw [n_le (by omega) (by omega)]; omega)]
      simp only [ldR, m0, m3, if_true, Option.bind_some, nI_add]
      rw [show 0 + 400 + k = 400 + k by omega, show 0 + 200 + k = 200 + k by omega, show 0 + k = k by omega]
      rw [ldA_t mq3 (by omega) (by omega), stA_t mq3 (by omega) (by omega), ldA_t mq3 (by omega) (by omega), stA_t mq3 (by omega) (by omega), sI_nk (show 400 + k ≠ k by omega), h3 _ (by omega)]
    · by_cases q : j = k
      · subst q
        exact ⟨by rw [sI_nk (by omega), sI_eq], sI_eq⟩
      · rw [sI_nk (by omega), sI_nk (by omega), sI_nk (by omega), sI_nk (by omega)]
        exact h4 j (by omega)) FU 0 Y (by omega) ⟨rfl, fun _ _ => rfl, fun _ _ => rfl, fun j hj => absurd hj (Nat.not_lt_zero _)⟩ (by rw [FU_40000]; omega)
  refine ⟨S, ?_, w1, w2, w3, w4⟩
  unfold f_X10_sidesBegin
  simp only [litM]
  rw [grd_t m0]
  refine Eq.trans e ?_
  show f_X10_sidesBegin_2 τ m (nI 0) (n + 1) S (nI 200) = _
  rw [f_X10_sidesBegin_2]
  exact if_pos (Int32.le_refl _)
theorem m_c83 {τ : Sh} {Y : Mx} {m : Nat} (hm : mdOK τ m) : ∃ Y1, f_X10_commit_83 τ m FU Y (nI 0) = some (nI (cnt 20 (Y.1 (m + 3) 401)), Y1) ∧ Y1.2 = Y.2 ∧ (∀ q, q ≠ m + 3 → Y1.1 q = Y.1 q) ∧ (∀ j, j < 615 → Y1.1 (m + 3) j = Y.1 (m + 3) j) ∧ (∀ j, j < 316 → Y1.1 (m + 3) (615 + j) = -(nI 1)) := by
  obtain ⟨m0, m1, m2, m3, m4, m5, m6, m7, m8, m9, m10, m11, m12, m13, m14, m15, m16, m17, mq1, mq2, mq3, mq4, mq5, mq6, mq7, mq8, mq9, mq10, mq11, mq12, mq13, mq14, mq15, mq16, mq17, mn1, mn2, mn3, mn4, mn5, mn6, mn7, mn8, mn9, mn10, mn11, mn12, mn13, mn14, mn15, mn16, mn17⟩ := hm
  obtain ⟨n, S, e, w1, w2, w3, w4⟩ := up_loop (fun n (S : Mx) k => f_X10_commit_83 τ m n S (nI k)) 316 (fun k S => S.2 = Y.2 ∧ (∀ q, q ≠ m + 3 → S.1 q = Y.1 q) ∧ (∀ j, j < 615 → S.1 (m + 3) j = Y.1 (m + 3) j) ∧ (∀ j, j < k → S.1 (m + 3) (615 + j) = -(nI 1))) (by
    intro n k S hk ⟨h1, h2, h3, h4⟩
    refine ⟨sI S (m + 3) (615 + k) (-(nI 1)), ?_, h1, fun q hq => by rw [sI_ne hq]; exact h2 q hq, fun j hj => by rw [sI_nk (by omega)]; exact h3 j hj, fun j hj => ?_⟩
    · show f_X10_commit_83 τ m (n + 1) S (nI k) = f_X10_commit_83 τ m n _ (nI (k + 1))
      rw [f_X10_commit_83]
      simp only [litM]
      rw [if_neg (by rw [n_le (by omega) (by omega)]; omega)]
      simp only [ldR, m0, m3, if_true, Option.bind_some, nI_add]
      rw [stA_t mq3 (by omega) (by omega)]
    · by_cases q : j = k
      · rw [q, sI_eq]
      · rw [sI_nk (by omega)]; exact h4 j (by omega)) FU 0 Y (by omega) ⟨rfl, fun _ _ => rfl, fun _ _ => rfl, fun j hj => absurd hj (Nat.not_lt_zero _)⟩ (by rw [FU_40000]; omega)
  refine ⟨S, ?_, w1, w2, w3, w4⟩
  refine Eq.trans e ?_
  show f_X10_commit_83 τ m (n + 1) S (nI 316) = _
  rw [f_X10_commit_83]
  refine Eq.trans (if_pos (Int32.le_refl _)) ?_
  simp only [litM]
  simp only [ldR, m0, m3, if_true, Option.bind_some]
  rw [ldA_t mq3 (by omega) (by omega), w3 401 (by omega), s_bits, Option.bind_some]
theorem tab_commit {X Y : Nat → Nat → Int32} {b m : Nat} {h K : Int32} {f n t u o nm ty cl wh : Nat → Int32} (hC : CmC X b h K n t u 9) (hM : CmM Y m h K nm ty cl 9) (hT : TR 180 f n t u o h K nm ty cl wh) : TabR X b (Y (m + 3)) 400 := by
  obtain ⟨c1, c2, c3, c4⟩ := hC
  obtain ⟨d1, d2, d3, d4⟩ := hM
  obtain ⟨t1, t2, t3, t4, t5, t6, t7⟩ := hT
  have l9 := cnt_le 9 h
  have sur : ∀ c, bt (X b 0) c = true → ∃ c', c' < 9 ∧ bt h c' = true ∧ cnt c' h = c := fun c hb => by
    rw [c1] at hb
    exact cnt_sur (of_decide_eq_true hb)
  refine ⟨bt_ext (fun d _ => by rw [c1, d1]), c2.trans d2.symm, fun d hd => by rw [c1]; exact decide_eq_false (by omega), by rw [c2]; exact t4, fun c hc hb => ?_, fun k c hk hc hbk hb => ?_, fun k c hk hc hab => ?_⟩
  · obtain ⟨c', e1, e2, e3⟩ := sur c hb
    subst e3
    obtain ⟨g1, g2, g3⟩ := c3 c' e1 e2
    obtain ⟨i1, i2, i3⟩ := d3 c' e1 e2
    obtain ⟨j1, j2, j3⟩ := t5 c' e1 e2
    exact ⟨by rw [g1, j1]; exact i1.symm, by rw [g2, j2]; exact i2.symm, by rw [g2]; exact j3⟩
  · obtain ⟨c', e1, e2, e3⟩ := sur c hb
    subst e3
    obtain ⟨g1, g2, g3⟩ := c3 c' e1 e2
    obtain ⟨i1, i2, i3⟩ := d3 c' e1 e2
    rw [c2] at hbk
    rw [g3 k hk, (t6 k c' hk e1 (by omega) hbk e2).1]
    exact (i3 k hk hbk).symm
  · by_cases hb : bt (X b 0) c = true
    · obtain ⟨c', e1, e2, e3⟩ := sur c hb
      subst e3
      obtain ⟨g1, g2, g3⟩ := c3 c' e1 e2
      rw [g3 k hk]
      refine t7 k c' hk e1 (Or.inl ?_)
      rcases hab with q | q
      · rw [← c2]; exact q
      · rw [hb] at q; cases q
    · have hb' := hb
      rw [c1] at hb'
      exact c4 k c hk (Nat.le_of_not_lt (fun q => hb' (decide_eq_true q))) hc
