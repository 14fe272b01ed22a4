theorem chs5 : ∀ k, k < 20 → ∀ c, c < 9 → (f_X10_choicesOf (nI 5) = nI 3 ↔ sdI (56 + (9 * k + c)) = true) := by decide +kernel
theorem m_f106 {τ : Sh} {Y S : Mx} {m k : Nat} {k98 : Mx → Int32 → Option Mx} (hm : mdOK τ m) (hk : k < 20) (h : DoC Y S m (56 + 9 * k)) : ∃ S1, f_X10_flip_106 k98 τ m (nI k) FU S (nI 0) = k98 S1 (nI (k + 1)) ∧ DoC Y S1 m (56 + 9 * (k + 1)) := by
  obtain ⟨n, S1, e, w⟩ := up_loop (fun n (S : Mx) c => f_X10_flip_106 k98 τ m (nI k) n S (nI c)) 9 (fun c S => DoC Y S m (56 + (9 * k + c))) (by
    intro n c S hc hD
    have hf := flp_lt hc
    have ef := m_flC (Y := S) hm (id_cell k hk c hc).2.1 (id_cell k hk (flp c) hf).2.1 (by omega) (by omega)
    have er : S.1 (m + 3) (1546 + (56 + (9 * k + flp c))) = Y.1 (m + 3) (1546 + (56 + (9 * k + flp c))) := hD.2.2.1 _ (by omega)
    rw [chF_eq (chs5 k hk c hc), er, ← cfM_r hk hc] at ef
    refine ⟨sI S (m + 3) (615 + (56 + (9 * k + c))) (chF (56 + (9 * k + c)) (Y.1 (m + 3) (1546 + cfM (56 + (9 * k + c))))), ?_, hD.step (by omega) rfl⟩
    show f_X10_flip_106 k98 τ m (nI k) (n + 1) S (nI c) = f_X10_flip_106 k98 τ m (nI k) n _ (nI (c + 1))
    rw [f_X10_flip_106]
    simp only [litM]
    rw [if_neg (by rw [n_le (by omega) (by omega)]; omega), m_flp c hc, ef, Option.bind_some, nI_add]) FU 0 S (by omega) (by rw [Nat.add_zero]; exact h) (by rw [FU_40000]; omega)
  refine ⟨S1, ?_, by rw [Nat.mul_succ]; exact w⟩
  refine Eq.trans e ?_
  show f_X10_flip_106 k98 τ m (nI k) (n + 1) S1 (nI 9) = _
  rw [f_X10_flip_106]
  refine Eq.trans (if_pos (Int32.le_refl _)) ?_
  simp only [litM, nI_add]
theorem m_f98 {τ : Sh} {Y S : Mx} {m : Nat} (hm : mdOK τ m) (h : DoC Y S m 56) : ∃ S1, f_X10_flip_98 τ m FU S (nI 0) = some S1 ∧ DoC Y S1 m 236 := by
  obtain ⟨n, S1, e, w⟩ := up_loop (fun n (S : Mx) k => f_X10_flip_98 τ m n S (nI k)) 20 (fun k S => DoC Y S m (56 + 9 * k)) (by
    intro n k S hk hD
    obtain ⟨S1, e1, w1⟩ := m_f106 (k98 := f_X10_flip_98 τ m n) hm hk hD
    refine ⟨S1, ?_, w1⟩
    show f_X10_flip_98 τ m (n + 1) S (nI k) = f_X10_flip_98 τ m n S1 (nI (k + 1))
    rw [f_X10_flip_98]
    simp only [litM]
    rw [if_neg (by rw [n_le (by omega) (by omega)]; omega)]
    exact e1) FU 0 S (by omega) h (by rw [FU_40000]; omega)
  refine ⟨S1, ?_, w⟩
  refine Eq.trans e ?_
  show f_X10_flip_98 τ m (n + 1) S1 (nI 20) = _
  rw [f_X10_flip_98]
  exact if_pos (Int32.le_refl _)
theorem m_f59 {τ : Sh} {Y : Mx} {m : Nat} (hm : mdOK τ m) (hT : ∀ j, j < 316 → Y.1 (m + 3) (1546 + j) = Y.1 (m + 3) (615 + j)) : ∃ S1, f_X10_flip_59 τ m FU Y (nI 0) = some S1 ∧ S1.2 = Y.2 ∧ (∀ q, q ≠ m + 3 → S1.1 q = Y.1 q) ∧ (∀ j, (j < 615 ∨ 931 ≤ j) → S1.1 (m + 3) j = Y.1 (m + 3) j) ∧ ∀ j, j < 316 → S1.1 (m + 3) (615 + j) = chF j (Y.1 (m + 3) (615 + cfM j)) := by
  obtain ⟨n, S, e, w⟩ := up_loop (fun n (S : Mx) k => f_X10_flip_59 τ m n S (nI k)) 4 (fun k S => DoC Y S m (9 * k)) (by
    intro n k S hk hD
    obtain ⟨S1, e1, w1⟩ := m_f66 (k59 := f_X10_flip_59 τ m n) hm hk hD
    refine ⟨S1, ?_, w1⟩
    show f_X10_flip_59 τ m (n + 1) S (nI k) = f_X10_flip_59 τ m n S1 (nI (k + 1))
    rw [f_X10_flip_59]
    simp only [litM]
    rw [if_neg (by rw [n_le (by omega) (by omega)]; omega)]
    exact e1) FU 0 Y (by omega) ⟨rfl, fun _ _ => rfl, fun _ _ => rfl, fun j _ => by rw [if_neg (by omega)]⟩ (by rw [FU_40000]; omega)
  have keep : ∀ j, (36 ≤ j ∧ j < 56) ∨ (236 ≤ j ∧ j < 316) → chF j (Y.1 (m + 3) (1546 + cfM j)) = Y.1 (m + 3) (615 + j) := by
    intro j hj
    have hc : cfM j = j := by
      unfold cfM
      rw [if_neg (by omega)]
      by_cases h5 : j < 56
      · rw [if_pos h5]
      · rw [if_neg h5, if_neg (by omega)]
    have hs : sdI j = false := decide_eq_false (by omega)
    rw [hc, hT j (by omega), chF, hs]
    simp only [Bool.false_eq_true, if_false, ite_self]
  have w56 : DoC Y S m 56 := ⟨w.1, w.2.1, w.2.2.1, fun j hj => by
    rw [w.2.2.2 j hj]
    by_cases a1 : j < 36
    · rw [if_pos a1, if_pos (by omega)]
    · rw [if_neg a1]
      by_cases a2 : j < 56
      · rw [if_pos a2, keep j (by omega)]
      · rw [if_neg a2]⟩
  obtain ⟨S1, e1, v1, v2, v3, v4⟩ := m_f98 hm w56
  have cl : ∀ j, j < 316 → cfM j < 316 := by decide +kernel
  refine ⟨S1, ?_, v1, v2, v3, fun j hj => ?_⟩
  · refine Eq.trans e ?_
    show f_X10_flip_59 τ m (n + 1) S (nI 4) = _
    rw [f_X10_flip_59]
    exact Eq.trans (if_pos (Int32.le_refl _)) e1
  · rw [v4 j hj, ← hT _ (cl j hj)]
    by_cases a1 : j < 236
    · rw [if_pos a1]
    · rw [if_neg a1, keep j (by omega)]
