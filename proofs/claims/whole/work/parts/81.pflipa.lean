def cfM (j : Nat) : Nat := if j < 36 then 9 * (j / 9) + flp (j % 9) else if j < 56 then j else if j < 236 then 56 + (9 * ((j - 56) / 9) + flp ((j - 56) % 9)) else j
theorem chs3 : ∀ kd, kd < 4 → ∀ c, c < 9 → (f_X10_choicesOf (nI kd) = nI 3 ↔ sdI (9 * kd + c) = true) := by decide +kernel
theorem chF_eq {P : Prop} [Decidable P] {j : Nat} {v : Int32} (h : P ↔ sdI j = true) : (if P then (if v ≤ nI 0 then v else nI 3 - v) else v) = chF j v := by
  unfold chF
  by_cases hp : P
  · rw [if_pos hp]
    by_cases h0 : v ≤ nI 0
    · rw [if_pos h0, if_pos h0]
    · rw [if_neg h0, if_neg h0, if_pos (h.mp hp)]
  · rw [if_neg hp]
    by_cases h0 : v ≤ nI 0
    · rw [if_pos h0]
    · rw [if_neg h0, if_neg (fun e => hp (h.mpr e))]
/-- the places below p are done -/
def DoC (Y S : Mx) (m p : Nat) : Prop := S.2 = Y.2 ∧ (∀ q, q ≠ m + 3 → S.1 q = Y.1 q) ∧ (∀ j, (j < 615 ∨ 931 ≤ j) → S.1 (m + 3) j = Y.1 (m + 3) j) ∧ ∀ j, j < 316 → S.1 (m + 3) (615 + j) = if j < p then chF j (Y.1 (m + 3) (1546 + cfM j)) else Y.1 (m + 3) (615 + j)
theorem DoC.step {Y S : Mx} {m p : Nat} {v : Int32} (h : DoC Y S m p) (hp : p < 316) (hv : v = chF p (Y.1 (m + 3) (1546 + cfM p))) : DoC Y (sI S (m + 3) (615 + p) v) m (p + 1) := by
  obtain ⟨h1, h2, h3, h4⟩ := h
  refine ⟨h1, fun q hq => by rw [sI_ne hq]; exact h2 q hq, fun j hj => by rw [sI_nk (by omega)]; exact h3 j hj, fun j hj => ?_⟩
  by_cases e : j = p
  · rw [e, sI_eq, if_pos (by omega)]; exact hv
  · rw [sI_nk (by omega), h4 j hj]
    by_cases e2 : j < p
    · rw [if_pos e2, if_pos (by omega)]
    · rw [if_neg e2, if_neg (by omega)]
theorem cfM_c {kd c : Nat} (hk : kd < 4) (hc : c < 9) : cfM (9 * kd + c) = 9 * kd + flp c := by
  unfold cfM
  rw [if_pos (by omega), show (9 * kd + c) / 9 = kd by omega, show (9 * kd + c) % 9 = c by omega]
theorem cfM_r {k c : Nat} (hk : k < 20) (hc : c < 9) : cfM (56 + (9 * k + c)) = 56 + (9 * k + flp c) := by
  unfold cfM
  rw [if_neg (by omega), if_neg (by omega), if_pos (by omega), show (56 + (9 * k + c) - 56) / 9 = k by omega, show (56 + (9 * k + c) - 56) % 9 = c by omega]
theorem m_f66 {τ : Sh} {Y S : Mx} {m kd : Nat} {k59 : Mx → Int32 → Option Mx} (hm : mdOK τ m) (hk : kd < 4) (h : DoC Y S m (9 * kd)) : ∃ S1, f_X10_flip_66 k59 τ m (nI kd) FU S (nI 0) = k59 S1 (nI (kd + 1)) ∧ DoC Y S1 m (9 * (kd + 1)) := by
  obtain ⟨n, S1, e, w⟩ := up_loop (fun n (S : Mx) c => f_X10_flip_66 k59 τ m (nI kd) n S (nI c)) 9 (fun c S => DoC Y S m (9 * kd + c)) (by
    intro n c S hc hD
    have hf := flp_lt hc
    have ef := m_flC (Y := S) hm (id_col kd hk c hc).2.1 (id_col kd hk (flp c) hf).2.1 (by omega) (by omega)
    have er : S.1 (m + 3) (1546 + (9 * kd + flp c)) = Y.1 (m + 3) (1546 + (9 * kd + flp c)) := hD.2.2.1 _ (by omega)
    rw [chF_eq (chs3 kd hk c hc), er, ← cfM_c hk hc] at ef
    refine ⟨sI S (m + 3) (615 + (9 * kd + c)) (chF (9 * kd + c) (Y.1 (m + 3) (1546 + cfM (9 * kd + c)))), ?_, hD.step (by omega) rfl⟩
    show f_X10_flip_66 k59 τ m (nI kd) (n + 1) S (nI c) = f_X10_flip_66 k59 τ m (nI kd) n _ (nI (c + 1))
    rw [f_X10_flip_66]
    simp only [litM]
    rw [if_neg (by rw [n_le (by omega) (by omega)]; omega), m_flp c hc, ef, Option.bind_some, nI_add]) FU 0 S (by omega) h (by rw [FU_40000]; omega)
  refine ⟨S1, ?_, by rw [Nat.mul_succ]; exact w⟩
  refine Eq.trans e ?_
  show f_X10_flip_66 k59 τ m (nI kd) (n + 1) S1 (nI 9) = _
  rw [f_X10_flip_66]
  refine Eq.trans (if_pos (Int32.le_refl _)) ?_
  simp only [litM, nI_add]
