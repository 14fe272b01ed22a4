/-! ===== commit: the reference's base ===== -/
def CmM (Y : Nat → Nat → Int32) (m : Nat) (h K : Int32) (nm ty cl : Nat → Int32) (C : Nat) : Prop := (∀ d, bt (Y (m + 3) 400) d = decide (d < cnt C h)) ∧ Y (m + 3) 401 = K ∧ (∀ c, c < C → bt h c = true → Y (m + 3) (402 + cnt c h) = nm c ∧ Y (m + 3) (411 + cnt c h) = ty c ∧ ∀ k, k < 20 → bt K k = true → Y (m + 3) (420 + 9 * k + cnt c h) = cl (9 * k + c)) ∧ (∀ c, c < C → Y (m + 12) c = if bt h c = true then nI (cnt c h) else -(nI 1))
theorem m_ct113 {τ : Sh} {Y : Mx} {m p c : Nat} {k2 : Mx → Int32 → Int32 → Option Mx} (hm : mdOK τ m) (hp : p < 9) (hc : c < 9) : ∃ Y1, f_X10_commitsTable_113 k2 τ m (nI 400) (nI p) (nI c) FU Y (nI 0) = k2 Y1 (nI (p + 1)) (nI (c + 1)) ∧ Y1.2 = Y.2 ∧ (∀ q, q ≠ m + 3 → Y1.1 q = Y.1 q) ∧ (∀ j, (j < 420 ∨ 600 ≤ j) → Y1.1 (m + 3) j = Y.1 (m + 3) j) ∧ (∀ k j, k < 20 → j < 9 → Y1.1 (m + 3) (420 + 9 * k + j) = if bt (Y.1 m 21) k = true ∧ j = p then Y.1 (m + 7) (9 * k + c) else Y.1 (m + 3) (420 + 9 * k + j)) := by
  obtain ⟨n, S, e, w1, w2, w3, w4⟩ := up_loop (fun n (S : Mx) k => f_X10_commitsTable_113 k2 τ m (nI 400) (nI p) (nI c) n S (nI k)) 20 (fun k S => S.2 = Y.2 ∧ (∀ q, q ≠ m + 3 → S.1 q = Y.1 q) ∧ (∀ j, (j < 420 ∨ 600 ≤ j) → S.1 (m + 3) j = Y.1 (m + 3) j) ∧ (∀ k' j, k' < 20 → j < 9 → S.1 (m + 3) (420 + 9 * k' + j) = if (bt (Y.1 m 21) k' = true ∧ j = p) ∧ k' < k then Y.1 (m + 7) (9 * k' + c) else Y.1 (m + 3) (420 + 9 * k' + j))) (by
    intro n k S hk ⟨h1, h2, h3, h4⟩
    cases e : bt (Y.1 m 21) k with
    | false =>
      refine ⟨S, ?_, h1, h2, h3, fun k' j hk' hj => ?_⟩
      · show f_X10_commitsTable_113 k2 τ m (nI 400) (nI p) (nI c) (n + 1) S (nI k) = f_X10_commitsTable_113 k2 τ m (nI 400) (nI p) (nI c) n S (nI (k + 1))
        rw [f_X10_commitsTable_113]
        simp only [litM]
        rw [if_neg (by rw [n_le (by omega) (by omega)]; omega), ldI_t hm.1, bt_d (by omega), h2 m (by omega), e, if_neg (by decide)]
        unfold f_X10_commitsTable_153
        simp only [litM, nI_add]
      · rw [h4 k' j hk' hj]
        by_cases q : k' = k
        · rw [q, e, if_neg (by intro h; exact absurd h.1.1 (by decide)), if_neg (by intro h; exact absurd h.1.1 (by decide))]
        · by_cases q2 : (bt (Y.1 m 21) k' = true ∧ j = p) ∧ k' < k
          · rw [if_pos q2, if_pos ⟨q2.1, by omega⟩]
          · rw [if_neg q2, if_neg (fun h => q2 ⟨h.1, by omega⟩)]
    | true =>
      refine ⟨sI S (m + 3) (420 + 9 * k + p) (Y.1 (m + 7) (9 * k + c)), ?_, h1, fun q hq => by rw [sI_ne hq]; exact h2 q hq, fun j hj => by rw [sI_nk (by omega)]; exact h3 j hj, fun k' j hk' hj => ?_⟩
      · show f_X10_commitsTable_113 k2 τ m (nI 400) (nI p) (nI c) (n + 1) S (nI k) = f_X10_commitsTable_113 k2 τ m (nI 400) (nI p) (nI c) n _ (nI (k + 1))
        rw [f_X10_commitsTable_113]
        simp only [litM]
        rw [if_neg (by rw [n_le (by omega) (by omega)]; omega), ldI_t hm.1, bt_d (by omega), h2 m (by omega), e, if_pos bI_t]
        rw [s10_mergedAt hm hk hc, s10_cellAt, h2 (m + 7) (by omega)]
        obtain ⟨m0, m1, m2, m3, m4, m5, m6, m7, m8, m9, m10, m11, m12, m13, m14, m15, m16, m17, mq1, mq2, mq3, mq4, mq5, mq6, mq7, mq8, mq9, mq10, mq11, mq12, mq13, mq14, mq15, mq16, mq17, mn1, mn2, mn3, mn4, mn5, mn6, mn7, mn8, mn9, mn10, mn11, mn12, mn13, mn14, mn15, mn16, mn17⟩ := hm
        simp only [ldR, m0, m3, if_true, Option.bind_some]
        rw [show 0 + 200 * 2 + 20 + 9 * k + p = 420 + 9 * k + p by omega, stA_t mq3 (by omega) (by omega)]
        unfold f_X10_commitsTable_153
        simp only [litM, nI_add]
      · by_cases q : k' = k ∧ j = p
        · obtain ⟨rfl, rfl⟩ := q
          rw [sI_eq, if_pos ⟨⟨e, rfl⟩, by omega⟩]
        · rw [sI_nk (by omega), h4 k' j hk' hj]
          by_cases q2 : (bt (Y.1 m 21) k' = true ∧ j = p) ∧ k' < k
          · rw [if_pos q2, if_pos ⟨q2.1, by omega⟩]
          · rw [if_neg q2, if_neg (fun h => q2 ⟨h.1, by have := h.1.2; omega⟩)]) FU 0 Y (by omega) ⟨rfl, fun _ _ => rfl, fun _ _ => rfl, fun k' c _ _ => by rw [if_neg (by omega)]⟩ (by rw [FU_40000]; omega)
  refine ⟨S, ?_, w1, w2, w3, fun k j hk hj => by
    rw [w4 k j hk hj]
    by_cases q : bt (Y.1 m 21) k = true ∧ j = p
    · rw [if_pos ⟨q, hk⟩, if_pos q]
    · rw [if_neg (fun h => q h.1), if_neg q]⟩
  refine Eq.trans e ?_
  show f_X10_commitsTable_113 k2 τ m (nI 400) (nI p) (nI c) (n + 1) S (nI 20) = _
  rw [f_X10_commitsTable_113]
  refine Eq.trans (if_pos (Int32.le_refl _)) ?_
  unfold f_X10_commitsTable_162
  simp only [litM, nI_add]
theorem m_ct29 {τ : Sh} {Y : Mx} {m : Nat} {h : Int32} (hm : mdOK τ m) (hh : Y.1 m 20 = h) (h0 : Y.1 (m + 3) 400 = nI 0) : ∃ Y1, f_X10_commitsTable_29 τ m (nI 400) FU Y (nI 0) (nI 0) = some Y1 ∧ Y1.2 = Y.2 ∧ (∀ q, q ≠ m + 3 → q ≠ m + 12 → Y1.1 q = Y.1 q) ∧ (∀ j, (j < 400 ∨ 600 ≤ j) → Y1.1 (m + 3) j = Y.1 (m + 3) j) ∧ (Y.1 (m + 3) 401 = Y.1 m 21 → CmM Y1.1 m h (Y.1 m 21) (Y.1 (m + 5)) (Y.1 (m + 6)) (Y.1 (m + 7)) 9) := by
  obtain ⟨n, S, e, w1, w2, w3, w4⟩ := up_loop (fun n (S : Mx) c => f_X10_commitsTable_29 τ m (nI 400) n S (nI (cnt c h)) (nI c)) 9 (fun c S => S.2 = Y.2 ∧ (∀ q, q ≠ m + 3 → q ≠ m + 12 → S.1 q = Y.1 q) ∧ (∀ j, (j < 400 ∨ 600 ≤ j) → S.1 (m + 3) j = Y.1 (m + 3) j) ∧ (Y.1 (m + 3) 401 = Y.1 m 21 → CmM S.1 m h (Y.1 m 21) (Y.1 (m + 5)) (Y.1 (m + 6)) (Y.1 (m + 7)) c)) (by
    intro n c S hc ⟨h1, h2, h3, h4⟩
    have l9 := cnt_le c h
    have hmm := id hm
    obtain ⟨m0, m1, m2, m3, m4, m5, m6, m7, m8, m9, m10, m11, m12, m13, m14, m15, m16, m17, mq1, mq2, mq3, mq4, mq5, mq6, mq7, mq8, mq9, mq10, mq11, mq12, mq13, mq14, mq15, mq16, mq17, mn1, mn2, mn3, mn4, mn5, mn6, mn7, mn8, mn9, mn10, mn11, mn12, mn13, mn14, mn15, mn16, mn17⟩ := hm
    cases e : bt h c with
    | false =>
      refine ⟨sI S (m + 12) c (-(nI 1)), ?_, h1, fun q q1 q2 => by rw [sI_ne q2]; exact h2 q q1 q2, fun j hj => by rw [sI_na (by omega)]; exact h3 j hj, fun hK => ?_⟩
      · show f_X10_commitsTable_29 τ m (nI 400) (n + 1) S (nI (cnt c h)) (nI c) = f_X10_commitsTable_29 τ m (nI 400) n _ (nI (cnt (c + 1) h)) (nI (c + 1))
        rw [f_X10_commitsTable_29]
        simp only [litM]
        rw [if_neg (by rw [n_le (by omega) (by omega)]; omega)]
        simp only [ldR, m0, m12, if_true, Option.bind_some]
        rw [stA_t mq12 (by omega) (by omega), ldI_t m0, bt_d (by omega), sI_na (by omega), h2 m (by omega) (by omega), hh, e, if_pos bI_f, cnt_f e]
        unfold f_X10_commitsTable_162
        simp only [litM, nI_add]
      · obtain ⟨g1, g2, g3, g4⟩ := h4 hK
        refine ⟨fun d => by rw [sI_na (by omega), cnt_f e]; exact g1 d, by rw [sI_na (by omega)]; exact g2, fun c' hc' hb => ?_, fun c' hc' => ?_⟩
        · have : c' ≠ c := fun q => by rw [q, e] at hb; cases hb
          rw [sI_ne (by omega)]
          exact g3 c' (by omega) hb
        · by_cases q : c' = c
          · rw [q, sI_eq, e, if_neg (by decide)]
          · rw [sI_nk q]; exact g4 c' (by omega)
    | true =>
      obtain ⟨S1, hS1⟩ : ∃ S1, S1 = sI (sI (sI (sI (sI S (m + 12) c (-(nI 1))) (m + 12) c (nI (cnt c h))) (m + 3) 400 (S.1 (m + 3) 400 ||| ((1 : Int32) <<< (nI (cnt c h) &&& 31)))) (m + 3) (402 + cnt c h) (Y.1 (m + 5) c)) (m + 3) (411 + cnt c h) (Y.1 (m + 6) c) := ⟨_, rfl⟩
      obtain ⟨S2, f1, f2, f3, f4, f5⟩ := m_ct113 (Y := S1) (p := cnt c h) (c := c) (k2 := f_X10_commitsTable_29 τ m (nI 400) n) hmm (by omega) hc
      have q1 : ∀ q, q ≠ m + 3 → q ≠ m + 12 → S1.1 q = Y.1 q := fun q qa qb => by rw [hS1, sI_ne qa, sI_ne qa, sI_ne qa, sI_ne qb, sI_ne qb]; exact h2 q qa qb
      have q12 : ∀ j, S1.1 (m + 12) j = if j = c then nI (cnt c h) else S.1 (m + 12) j := fun j => by
        rw [hS1, sI_na (by omega), sI_na (by omega), sI_na (by omega)]
        by_cases q : j = c
        · rw [q, sI_eq, if_pos rfl]
        · rw [sI_nk q, sI_nk q, if_neg q]
      have q3 : ∀ j, j ≠ 400 → j ≠ 402 + cnt c h → j ≠ 411 + cnt c h → S1.1 (m + 3) j = S.1 (m + 3) j := fun j a b c => by
        rw [hS1, sI_nk c, sI_nk b, sI_nk a, sI_na (by omega), sI_na (by omega)]
      refine ⟨S2, ?_, by rw [f2, hS1]; exact h1, fun q qa qb => by rw [f3 q qa]; exact q1 q qa qb, fun j hj => by rw [f4 j (by omega), q3 j (by omega) (by omega) (by omega)]; exact h3 j hj, fun hK => ?_⟩
      · show f_X10_commitsTable_29 τ m (nI 400) (n + 1) S (nI (cnt c h)) (nI c) = f_X10_commitsTable_29 τ m (nI 400) n S2 (nI (cnt (c + 1) h)) (nI (c + 1))
        rw [f_X10_commitsTable_29]
        simp only [litM]
        rw [if_neg (by rw [n_le (by omega) (by omega)]; omega)]
        simp only [ldR, m0, m12, m3, m5, m6, if_true, Option.bind_some]
        rw [stA_t mq12 (by omega) (by omega), ldI_t m0, bt_d (by omega), sI_na (by omega), h2 m (by omega) (by omega), hh, e, if_neg (by decide)]
        simp only [nI_add]
        rw [stA_t mq12 (by omega) (by omega), show 400 + 0 = 400 from rfl, ldA_t mq3 (by omega) (by omega), stA_t mq3 (by omega) (by omega), ldA_t mq5 (by omega) (by omega), stA_t mq3 (by omega) (by omega), ldA_t mq6 (by omega) (by omega), stA_t mq3 (by omega) (by omega)]
        rw [sI_na (show m + 3 ≠ m + 12 by omega), sI_na (show m + 3 ≠ m + 12 by omega), sI_na (show m + 5 ≠ m + 3 by omega), sI_na (show m + 5 ≠ m + 12 by omega), sI_na (show m + 5 ≠ m + 12 by omega), sI_na (show m + 6 ≠ m + 3 by omega), sI_na (show m + 6 ≠ m + 3 by omega), sI_na (show m + 6 ≠ m + 12 by omega), sI_na (show m + 6 ≠ m + 12 by omega), h2 (m + 5) (by omega) (by omega), h2 (m + 6) (by omega) (by omega)]
        rw [show 400 + 2 + cnt c h = 402 + cnt c h by omega, show 400 + 11 + cnt c h = 411 + cnt c h by omega]
        refine Eq.trans ?_ (f1.trans (by rw [cnt_t e]))
        rw [hS1]
        rfl
      · obtain ⟨g1, g2, g3, g4⟩ := h4 hK
        have e7 : S1.1 (m + 7) = Y.1 (m + 7) := q1 _ (by omega) (by omega)
        have em : S1.1 m = Y.1 m := q1 _ (by omega) (by omega)
        refine ⟨fun d => ?_, ?_, fun c' hc' hb => ?_, fun c' hc' => ?_⟩
        · rw [f4 400 (by omega), hS1, sI_nk (by omega), sI_nk (by omega), sI_eq, bt_set (by omega), g1, cnt_t e]
          by_cases q : d = cnt c h
          · rw [decide_eq_true q, decide_eq_true (show d < cnt c h + 1 by omega), Bool.or_true]
          · rw [decide_eq_false q, Bool.or_false]
            by_cases q2 : d < cnt c h
            · rw [decide_eq_true q2, decide_eq_true (show d < cnt c h + 1 by omega)]
            · rw [decide_eq_false q2, decide_eq_false (show ¬ d < cnt c h + 1 by omega)]
        · rw [f4 401 (by omega), q3 401 (by omega) (by omega) (by omega)]; exact g2
        · by_cases q : c' = c
          · subst q
            refine ⟨?_, ?_, fun k hk hbk => ?_⟩
            · rw [f4 _ (by omega), hS1, sI_nk (by omega), sI_eq]
            · rw [f4 _ (by omega), hS1, sI_eq]
            · rw [f5 k _ hk (by omega), if_pos ⟨by rw [em]; exact hbk, rfl⟩, e7]
          · have lt := cnt_lt2 (h := h) (show c' < c by omega) hb
            obtain ⟨i1, i2, i3⟩ := g3 c' (by omega) hb
            refine ⟨?_, ?_, fun k hk hbk => ?_⟩
            · rw [f4 _ (by omega), q3 _ (by omega) (by omega) (by omega)]; exact i1
            · rw [f4 _ (by omega), q3 _ (by omega) (by omega) (by omega)]; exact i2
            · rw [f5 k _ hk (by omega), if_neg (by omega), q3 _ (by omega) (by omega) (by omega)]; exact i3 k hk hbk
        · rw [f3 _ (by omega), q12]
          by_cases q : c' = c
          · rw [if_pos q, q, e, if_pos rfl]
          · rw [if_neg q]; exact g4 c' (by omega)) FU 0 Y (by omega) ⟨rfl, fun _ _ _ => rfl, fun _ _ => rfl, fun hK => ⟨fun d => by rw [h0, show (nI 0 : Int32) = 0 from rfl, bt_zero]; exact (decide_eq_false (Nat.not_lt_zero _)).symm, hK, fun c hc => absurd hc (Nat.not_lt_zero _), fun c hc => absurd hc (Nat.not_lt_zero _)⟩⟩ (by rw [FU_40000]; omega)
  refine ⟨S, ?_, w1, w2, w3, w4⟩
  refine Eq.trans e ?_
  show f_X10_commitsTable_29 τ m (nI 400) (n + 1) S _ (nI 9) = _
  rw [f_X10_commitsTable_29]
  exact if_pos (Int32.le_refl _)
theorem m_ct {τ : Sh} {Y : Mx} {m : Nat} (hm : mdOK τ m) : ∃ Y1, f_X10_commitsTable τ Y m = some Y1 ∧ Y1.2 = Y.2 ∧ (∀ q, q ≠ m + 3 → q ≠ m + 12 → Y1.1 q = Y.1 q) ∧ (∀ j, (j < 400 ∨ 600 ≤ j) → Y1.1 (m + 3) j = Y.1 (m + 3) j) ∧ CmM Y1.1 m (Y.1 m 20) (Y.1 m 21) (Y.1 (m + 5)) (Y.1 (m + 6)) (Y.1 (m + 7)) 9 := by
  have hmm := id hm
  obtain ⟨m0, m1, m2, m3, m4, m5, m6, m7, m8, m9, m10, m11, m12, m13, m14, m15, m16, m17, mq1, mq2, mq3, mq4, mq5, mq6, mq7, mq8, mq9, mq10, mq11, mq12, mq13, mq14, mq15, mq16, mq17, mn1, mn2, mn3, mn4, mn5, mn6, mn7, mn8, mn9, mn10, mn11, mn12, mn13, mn14, mn15, mn16, mn17⟩ := hm
  obtain ⟨S, hS⟩ : ∃ S, S = sI (sI Y (m + 3) 400 (nI 0)) (m + 3) 401 (Y.1 m 21) := ⟨_, rfl⟩
  have sq : ∀ q, q ≠ m + 3 → S.1 q = Y.1 q := fun q hq => by rw [hS, sI_ne hq, sI_ne hq]
  obtain ⟨Y1, e, w1, w2, w3, w4⟩ := m_ct29 (Y := S) (h := Y.1 m 20) hmm (by rw [sq m (by omega)]) (by rw [hS, sI_nk (by omega), sI_eq])
  refine ⟨Y1, ?_, by rw [w1, hS]; rfl, fun q q1 q2 => by rw [w2 q q1 q2, sq q q1], fun j hj => by rw [w3 j hj, hS, sI_nk (by omega), sI_nk (by omega)], ?_⟩
  · unfold f_X10_commitsTable
    simp only [litM]
    rw [grd_t m0]
    simp only [ldR, m0, m3, if_true, Option.bind_some, nI_add]
    rw [stA_t mq3 (by omega) (by omega), ldI_t m0, stA_t mq3 (by omega) (by omega), sI_na (show m ≠ m + 3 by omega)]
    rw [hS] at e
    exact e
  · have := w4 (by rw [sq m (by omega), hS, sI_eq])
    rw [sq m (by omega), sq (m + 5) (by omega), sq (m + 6) (by omega), sq (m + 7) (by omega)] at this
    exact this
