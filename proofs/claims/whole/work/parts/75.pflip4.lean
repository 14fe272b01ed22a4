theorem bt_orb {v : Int32} {b : Bool} {c d : Nat} (hc : c < 9) : bt (v ||| (bI b <<< (nI c &&& nI 31))) d = (bt v d || (b && decide (d = c))) := by
  cases b with
  | true => rw [Bool.true_and]; exact bt_set (by omega)
  | false =>
    have h : ∀ c, c < 9 → bI false <<< (nI c &&& nI 31) = (0 : Int32) := by decide
    rw [h c hc, Int32.or_zero, Bool.false_and, Bool.or_false]
/-- a table laid anew from another's row, its added columns having changed places -/
def FlT (Y Y1 : Mx) (m o t C : Nat) : Prop := Y1.2 = Y.2 ∧ (∀ q, q ≠ m + 3 → Y1.1 q = Y.1 q) ∧ (∀ j, (j < o ∨ o + 200 ≤ j) → Y1.1 (m + 3) j = Y.1 (m + 3) j) ∧ Y1.1 (m + 3) (o + 1) = Y.1 (m + 3) (t + 1) ∧ (∀ d, bt (Y1.1 (m + 3) o) d = (decide (d < C) && bt (Y.1 (m + 3) t) (flp d))) ∧ (∀ c, c < C → Y1.1 (m + 3) (o + 2 + c) = Y.1 (m + 3) (t + 2 + flp c) ∧ Y1.1 (m + 3) (o + 11 + c) = Y.1 (m + 3) (t + 11 + flp c) ∧ ∀ k, k < 20 → Y1.1 (m + 3) (o + 20 + 9 * k + c) = Y.1 (m + 3) (t + 20 + 9 * k + flp c))
theorem m_fl46 {τ : Sh} {Y Y0 : Mx} {m o t : Nat} (hm : mdOK τ m) (ho : o + 200 ≤ 931) (ht : 931 ≤ t ∧ t + 200 ≤ 1862) (h0 : FlT Y Y0 m o t 0) : ∃ Y1, f_X10_flipsTable_46 τ m (nI o) (nI t) FU Y0 (nI 0) = some Y1 ∧ FlT Y Y1 m o t 9 := by
  obtain ⟨n, s, e, w⟩ := up_loop (fun n (s : Mx) k => f_X10_flipsTable_46 τ m (nI o) (nI t) n s (nI k)) 9 (fun k s => FlT Y s m o t k) (by
    intro n c s hc ⟨h1, h2, h3, h4, h5, h6⟩
    have hf := flp_lt hc
    obtain ⟨S, hS⟩ : ∃ S, S = sI (sI (sI s (m + 3) o (s.1 (m + 3) o ||| (bI (bt (s.1 (m + 3) t) (flp c)) <<< (nI c &&& nI 31)))) (m + 3) (o + 2 + c) (s.1 (m + 3) (t + 2 + flp c))) (m + 3) (o + 11 + c) (s.1 (m + 3) (t + 11 + flp c)) := ⟨_, rfl⟩
    obtain ⟨s1, e1, w1, w2, w3, w4⟩ := m_fl139 (Y := S) (k46 := f_X10_flipsTable_46 τ m (nI o) (nI t) n) hm ho ht hc
    have Sq : ∀ q, q ≠ m + 3 → S.1 q = s.1 q := fun q hq => by rw [hS, sI_ne hq, sI_ne hq, sI_ne hq]
    have Sj : ∀ j, j ≠ o → j ≠ o + 2 + c → j ≠ o + 11 + c → S.1 (m + 3) j = s.1 (m + 3) j := fun j j0 j1 j2 => by rw [hS, sI_nk j2, sI_nk j1, sI_nk j0]
    have S0 : S.1 (m + 3) o = s.1 (m + 3) o ||| (bI (bt (s.1 (m + 3) t) (flp c)) <<< (nI c &&& nI 31)) := by rw [hS, sI_nk (by omega), sI_nk (by omega), sI_eq]
    have S2 : S.1 (m + 3) (o + 2 + c) = s.1 (m + 3) (t + 2 + flp c) := by rw [hS, sI_nk (by omega), sI_eq]
    have S11 : S.1 (m + 3) (o + 11 + c) = s.1 (m + 3) (t + 11 + flp c) := by rw [hS, sI_eq]
    refine ⟨s1, ?_, w1.trans ?_, fun q hq => by rw [w2 q hq, Sq q hq, h2 q hq], fun j hj => ?_, ?_, fun d => ?_, fun c' hc' => ⟨?_, ?_, fun k hk => ?_⟩⟩
    · show f_X10_flipsTable_46 τ m (nI o) (nI t) (n + 1) s (nI c) = f_X10_flipsTable_46 τ m (nI o) (nI t) n s1 (nI (c + 1))
      rw [f_X10_flipsTable_46]
      refine Eq.trans ?_ e1
      rw [hS]
      obtain ⟨m0, m1, m2, m3, m4, m5, m6, m7, m8, m9, m10, m11, m12, m13, m14, m15, m16, m17, mq1, mq2, mq3, mq4, mq5, mq6, mq7, mq8, mq9, mq10, mq11, mq12, mq13, mq14, mq15, mq16, mq17, mn1, mn2, mn3, mn4, mn5, mn6, mn7, mn8, mn9, mn10, mn11, mn12, mn13, mn14, mn15, mn16, mn17⟩ := hm
      simp (disch := first | assumption | omega) only [litM, grd_t, grd_T, ldI_t, stI_t, ldA_t, stA_t, lenA_t, n_lt_t, n_lt_f, n_le_t, n_le_f, n_eq_t, n_eq_f, if_true, if_false, nI_add, nI_mul, bt_d, bI_z, bI_o, Option.bind_some, Bool.true_eq_false, Bool.false_eq_true, ldR, eq_self, if_true, Option.bind_some, m0, m3, m_flp, Nat.add_zero, sI_nk]
    · rw [hS]; exact h1
    · rw [w3 j (fun k hk => by omega), Sj j (by omega) (by omega) (by omega), h3 j hj]
    · rw [w3 _ (fun k hk => by omega), Sj _ (by omega) (by omega) (by omega)]; exact h4
    · rw [w3 _ (fun k hk => by omega), S0, bt_orb hc, h5 d, h3 t (by omega)]
      by_cases e : d = c
      · subst e
        simp
      · by_cases e2 : d < c
        · simp [e, e2, show d < c + 1 by omega]
        · simp [e, e2, show ¬ d < c + 1 by omega]
    · rw [w3 _ (fun k hk => by omega)]
      by_cases e : c' = c
      · rw [e, S2, h3 _ (by omega)]
      · rw [Sj _ (by omega) (by omega) (by omega)]; exact (h6 c' (by omega)).1
    · rw [w3 _ (fun k hk => by omega)]
      by_cases e : c' = c
      · rw [e, S11, h3 _ (by omega)]
      · rw [Sj _ (by omega) (by omega) (by omega)]; exact (h6 c' (by omega)).2.1
    · by_cases e : c' = c
      · rw [e, w4 k hk, Sj _ (by omega) (by omega) (by omega), h3 _ (by omega)]
      · rw [w3 _ (fun k hk => by omega), Sj _ (by omega) (by omega) (by omega)]; exact (h6 c' (by omega)).2.2 k hk) FU 0 Y0 (by omega) h0 (by rw [FU_40000]; omega)
  refine ⟨s, ?_, w⟩
  refine Eq.trans e ?_
  show f_X10_flipsTable_46 τ m (nI o) (nI t) (n + 1) s (nI 9) = _
  rw [f_X10_flipsTable_46]
  exact if_pos (Int32.le_refl _)
theorem m_flT {τ : Sh} {Y : Mx} {m u v : Nat} (hm : mdOK τ m) (hu : u < 2) (hv : v < 2) : ∃ Y1, f_X10_flipsTable τ Y m (nI u) (nI v) = some Y1 ∧ FlT Y Y1 m (200 * u) (931 + 200 * v) 9 := by
  obtain ⟨Y1, e, w⟩ := m_fl46 (Y := Y) (Y0 := sI (sI Y (m + 3) (200 * u + 1) (Y.1 (m + 3) (931 + 200 * v + 1))) (m + 3) (200 * u) (nI 0)) (o := 200 * u) (t := 931 + 200 * v) hm (by omega) (by omega) ⟨rfl, fun q hq => by rw [sI_ne hq, sI_ne hq], fun j hj => by rw [sI_nk (by omega), sI_nk (by omega)], by rw [sI_nk (by omega), sI_eq], fun d => by
    rw [sI_eq]
    simp only [Nat.not_lt_zero, decide_false, Bool.false_and]
    exact bt_zero, fun c hc => by omega⟩
  refine ⟨Y1, ?_, w⟩
  unfold f_X10_flipsTable
  refine Eq.trans ?_ e
  obtain ⟨m0, m1, m2, m3, m4, m5, m6, m7, m8, m9, m10, m11, m12, m13, m14, m15, m16, m17, mq1, mq2, mq3, mq4, mq5, mq6, mq7, mq8, mq9, mq10, mq11, mq12, mq13, mq14, mq15, mq16, mq17, mn1, mn2, mn3, mn4, mn5, mn6, mn7, mn8, mn9, mn10, mn11, mn12, mn13, mn14, mn15, mn16, mn17⟩ := hm
  simp (disch := first | assumption | omega) only [litM, grd_t, grd_T, ldI_t, stI_t, ldA_t, stA_t, lenA_t, n_lt_t, n_lt_f, n_le_t, n_le_f, n_eq_t, n_eq_f, if_true, if_false, nI_add, nI_mul, bt_d, bI_z, bI_o, Option.bind_some, Bool.true_eq_false, Bool.false_eq_true, ldR, eq_self, if_true, Option.bind_some, m0, m3, Nat.add_zero]
