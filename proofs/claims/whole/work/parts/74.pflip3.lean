/-! ===== flip: the reference's rows ===== -/
theorem m_flp : ∀ c, c < 9 → f_X10_flipped (nI c) = nI (flp c) := by decide +kernel
theorem m_fl139 {τ : Sh} {Y : Mx} {m o t c : Nat} {k46 : Mx → Int32 → Option Mx} (hm : mdOK τ m) (ho : o + 200 ≤ 931) (ht : 931 ≤ t ∧ t + 200 ≤ 1862) (hc : c < 9) : ∃ Y1, f_X10_flipsTable_139 k46 τ m (nI o) (nI t) (nI c) (nI (flp c)) FU Y (nI 0) = k46 Y1 (nI (c + 1)) ∧ Y1.2 = Y.2 ∧ (∀ q, q ≠ m + 3 → Y1.1 q = Y.1 q) ∧ (∀ j, (∀ k, k < 20 → j ≠ o + 20 + 9 * k + c) → Y1.1 (m + 3) j = Y.1 (m + 3) j) ∧ (∀ k, k < 20 → Y1.1 (m + 3) (o + 20 + 9 * k + c) = Y.1 (m + 3) (t + 20 + 9 * k + flp c)) := by
  have hf := flp_lt hc
  obtain ⟨n, s, e, w1, w2, w3, w4⟩ := up_loop (fun n (s : Mx) k => f_X10_flipsTable_139 k46 τ m (nI o) (nI t) (nI c) (nI (flp c)) n s (nI k)) 20 (fun k s => s.2 = Y.2 ∧ (∀ q, q ≠ m + 3 → s.1 q = Y.1 q) ∧ (∀ j, (∀ k', k' < k → j ≠ o + 20 + 9 * k' + c) → s.1 (m + 3) j = Y.1 (m + 3) j) ∧ (∀ k', k' < k → s.1 (m + 3) (o + 20 + 9 * k' + c) = Y.1 (m + 3) (t + 20 + 9 * k' + flp c))) (by
    intro n k s hk ⟨h1, h2, h3, h4⟩
    refine ⟨sI s (m + 3) (o + 20 + 9 * k + c) (s.1 (m + 3) (t + 20 + 9 * k + flp c)), ?_, h1, fun q hq => by rw [sI_ne hq]; exact h2 q hq, fun j hj => ?_, fun k' hk' => ?_⟩
    · show f_X10_flipsTable_139 k46 τ m (nI o) (nI t) (nI c) (nI (flp c)) (n + 1) s (nI k) = f_X10_flipsTable_139 k46 τ m (nI o) (nI t) (nI c) (nI (flp c)) n _ (nI (k + 1))
      rw [f_X10_flipsTable_139]
      obtain ⟨m0, m1, m2, m3, m4, m5, m6, m7, m8, m9, m10, m11, m12, m13, m14, m15, m16, m17, mq1, mq2, mq3, mq4, mq5, mq6, mq7, mq8, mq9, mq10, mq11, mq12, mq13, mq14, mq15, mq16, mq17, mn1, mn2, mn3, mn4, mn5, mn6, mn7, mn8, mn9, mn10, mn11, mn12, mn13, mn14, mn15, mn16, mn17⟩ := hm
      simp (disch := first | assumption | omega) only [litM, grd_t, grd_T, ldI_t, stI_t, ldA_t, stA_t, lenA_t, n_lt_t, n_lt_f, n_le_t, n_le_f, n_eq_t, n_eq_f, if_true, if_false, nI_add, nI_mul, bt_d, bI_z, bI_o, Option.bind_some, Bool.true_eq_false, Bool.false_eq_true, ldR, eq_self, if_true, Option.bind_some, m0, m3]
    · rw [sI_nk (hj k (by omega))]
      exact h3 j (fun k' hk' => hj k' (by omega))
    · have ev : s.1 (m + 3) (t + 20 + 9 * k + flp c) = Y.1 (m + 3) (t + 20 + 9 * k + flp c) := h3 _ (fun k' hk' => by omega)
      by_cases e : k' = k
      · rw [e, sI_eq]; exact ev
      · rw [sI_nk (by omega)]; exact h4 k' (by omega)) FU 0 Y (by omega) ⟨rfl, fun _ _ => rfl, fun _ _ => rfl, fun k' hk' => by omega⟩ (by rw [FU_40000]; omega)
  refine ⟨s, ?_, w1, w2, w3, w4⟩
  refine Eq.trans e ?_
  show f_X10_flipsTable_139 k46 τ m (nI o) (nI t) (nI c) (nI (flp c)) (n + 1) s (nI 20) = _
  rw [f_X10_flipsTable_139]
  refine Eq.trans (if_pos (Int32.le_refl _)) ?_
  simp only [litM, nI_add]
