/-! ===== an act kept ===== -/
theorem StR.mv' {X X1 : Nat → Nat → Int32} {s b b1 : Nat} {W W1 : Nat → Int32} (h : StR X s (s + 5) (s + 9) W b) (hx : ∀ q, s ≤ q → q ≤ s + 16 → X1 q = X q) (hw : ∀ j, j < 931 → W1 (b1 + j) = W (b + j)) : StR X1 s (s + 5) (s + 9) W1 b1 :=
  (h.fr (W1 := W) (Or.inl ⟨rfl, rfl⟩) hx (fun _ _ => rfl)).mv (fun p q hpq => by
    have : p = q := by omega
    subst this
    exact ⟨rfl, rfl, fun _ _ => rfl, fun _ _ => rfl, fun _ _ => rfl⟩) rfl rfl rfl (fun _ _ => rfl) (fun _ _ => rfl) (fun _ _ => rfl) (fun _ _ => rfl) hw
/-- a change noted: nothing that was made of the rows stands -/
theorem noteChange {σ : Sh} {X : Mx} {a L R : Nat} (hs : IVs σ a L R) : ∃ X1, f_X9_noteChange σ X a = some X1 ∧ (∀ q, q ≠ a → q ≠ a + 81 → X1.1 q = X.1 q) ∧ (∀ j, j ≠ 10 → X1.1 a j = X.1 a j) ∧ X1.1 a 10 = nI 0 ∧ (∀ j, j < 7 → X1.1 (a + 81) j = nI 0) := by
  obtain ⟨⟨⟨o0, o1, o2, o3, o4, o5, o6, o7, o8, o9, o10⟩, oM, oT, oA, oS, oQ, oI, oA2, oS2, oR, oD, oO⟩, hst, hsl, hsh⟩ := id hs
  obtain ⟨q0, q1, q2, q3, q4, q5, q6, q7, q8, q9, q10, q11, q12, q13⟩ := oQ
  have hf := s_fill (σ := σ) (X := sI X a 10 (nI 0)) (a := a + 53 + 28) (v := nI 0) q8 (by rw [q9]; omega)
  rw [q9] at hf
  refine ⟨wF (sI X a 10 (nI 0)) (a + 53 + 28) (fun j => if j < 7 then nI 0 else (sI X a 10 (nI 0)).1 (a + 53 + 28) j), ?_, fun q h1 h2 => ?_, fun j hj => ?_, ?_, fun j hj => ?_⟩
  · unfold f_X9_noteChange f_X3_clear
    simp only [litM]
    rw [grd_t o0, stI_t o0]
    simp only [ldR, o0, o6, if_true, Option.bind_some]
    rw [grd_t q0]
    simp only [q0, q3, if_true, Option.bind_some]
    rw [hf]
    rfl
  · rw [wF_fn (by omega), sI_ne h1]
  · rw [wF_fn (by omega), sI_nk hj]
  · rw [wF_fn (by omega), sI_eq]
  · rw [show a + 81 = a + 53 + 28 from rfl, wF_at, if_pos hj]
theorem rot31 : ∀ n : Nat, n < 31 → (nI n + nI 1) - (nI n + nI 1) / nI 31 * nI 31 = nI ((n + 1) % 31) := by decide +kernel
theorem keepAct {σ : Sh} {X : Mx} {a L R k f : Nat} (hs : IVs σ a L R) (hk : k ≤ 30) (hf : f < 31) (h2 : X.1 (a + 47) 2 = nI k) (h1 : X.1 (a + 47) 1 = nI f) : ∃ X1, f_X9_keepAct σ X a = some X1 ∧ (∀ q, q ≠ a → q ≠ a + 81 → q ≠ a + 47 → X1.1 q = X.1 q) ∧ (∀ j, j ≠ 10 → X1.1 a j = X.1 a j) ∧ X1.1 a 10 = nI 0 ∧ (∀ j, j < 7 → X1.1 (a + 81) j = nI 0) ∧ X1.1 (a + 47) 2 = nI (if k = 30 then 30 else k + 1) ∧ X1.1 (a + 47) 1 = nI (if k = 30 then (f + 1) % 31 else f) := by
  obtain ⟨o0, o1, o2, o3, o4, -⟩ := hs.1.1
  obtain ⟨c0, -⟩ := hs.1.2.2.2.1
  obtain ⟨X1, e1, w2, w1, w⟩ : ∃ X1, f_X0_keepPrepared σ X (a + 47) = some X1 ∧ X1.1 (a + 47) 2 = nI (if k = 30 then 30 else k + 1) ∧ X1.1 (a + 47) 1 = nI (if k = 30 then (f + 1) % 31 else f) ∧ ∀ q, q ≠ a + 47 → X1.1 q = X.1 q := by
    unfold f_X0_keepPrepared
    simp only [litM]
    rw [grd_t c0, ldI_t c0, h2]
    by_cases e : k = 30
    · rw [if_pos (by rw [n_le (by omega) (by omega)]; omega), ldI_t c0, stI_t c0, h1, rot31 f hf, if_pos e, if_pos e]
      exact ⟨_, rfl, by rw [sI_nk (by omega), h2, e], sI_eq, fun q hq => sI_ne hq⟩
    · rw [if_neg (by rw [n_le (by omega) (by omega)]; omega), ldI_t c0, stI_t c0, h2, nI_add, if_neg e, if_neg e]
      exact ⟨_, rfl, sI_eq, by rw [sI_nk (by omega), h1], fun q hq => sI_ne hq⟩
  obtain ⟨X2, e2, f1, f2, f3, f4⟩ := noteChange (X := X1) hs
  refine ⟨X2, ?_, fun q q1 q2 q3 => (f1 q q1 q2).trans (w q q3), fun j hj => by rw [f2 j hj, w a (by omega)], f3, f4, by rw [f1 _ (by omega) (by omega)]; exact w2, by rw [f1 _ (by omega) (by omega)]; exact w1⟩
  unfold f_X9_keepAct
  rw [grd_t o0]
  simp only [ldR, o0, o4, if_true, Option.bind_some]
  rw [e1]
  simp only [Option.bind_some]
  rw [e2]
  rfl
theorem nI_sub {a b : Nat} : nI (a + b) - nI a = nI b := by
  rw [← nI_add, Int32.add_comm, Int32.add_sub_cancel]
def mcp (Y : Mx) (m k : Nat) : Mx := sI (wF Y (m + 4) (fun j => if 931 * k ≤ j ∧ j < 931 * k + 931 then Y.1 (m + 3) (0 + (j - 931 * k)) else Y.1 (m + 4) j)) m 19 (nI (k + 1))
theorem m_copy {τ : Sh} {Y : Mx} {m k : Nat} (hm : mdOK τ m) (hk : k < 30) (h : Y.1 m 19 = nI k) : f_X10_keeps_52 τ m Y = some (mcp Y m k) := by
  obtain ⟨n, e⟩ := cp_loop (F := fun n (s : Mx) j => if s.1 m 19 = nI k then f_X10_keeps_54 τ m n s (nI j) else none) (Y := Y) (a := m + 4) (a' := m + 3) (off := 931 * k) (src := 0) (N := 931) (Or.inl (by omega)) (by
    intro n s j hj
    show (if s.1 m 19 = nI k then f_X10_keeps_54 τ m (n + 1) s (nI j) else none) = (if (sI s (m + 4) (931 * k + j) (s.1 (m + 3) (0 + j))).1 m 19 = nI k then f_X10_keeps_54 τ m n _ (nI (j + 1)) else none)
    rw [sI_na (by omega)]
    by_cases e : s.1 m 19 = nI k
    · rw [if_pos e, if_pos e, f_X10_keeps_54, Nat.zero_add]
      obtain ⟨m0, m1, m2, m3, m4, m5, m6, m7, m8, m9, m10, m11, m12, m13, m14, m15, m16, m17, mq1, mq2, mq3, mq4, mq5, mq6, mq7, mq8, mq9, mq10, mq11, mq12, mq13, mq14, mq15, mq16, mq17, mn1, mn2, mn3, mn4, mn5, mn6, mn7, mn8, mn9, mn10, mn11, mn12, mn13, mn14, mn15, mn16, mn17⟩ := hm
      simp (disch := first | assumption | omega) only [litM, grd_t, grd_T, ldI_t, stI_t, ldA_t, stA_t, lenA_t, n_lt_t, n_lt_f, n_le_t, n_le_f, n_eq_t, n_eq_f, if_true, if_false, nI_add, nI_mul, bt_d, bI_z, bI_o, Option.bind_some, Bool.true_eq_false, Bool.false_eq_true, ldR, eq_self, if_true, Option.bind_some, m0, m3, m4, e]
    · rw [if_neg e, if_neg e]) (by rw [FU_40000]; omega)
  have e' : f_X10_keeps_54 τ m FU Y (nI 0) = f_X10_keeps_54 τ m (n + 1) (wF Y (m + 4) (fun j => if 931 * k ≤ j ∧ j < 931 * k + 931 then Y.1 (m + 3) (0 + (j - 931 * k)) else Y.1 (m + 4) j)) (nI 931) := by
    have e2 : (if Y.1 m 19 = nI k then f_X10_keeps_54 τ m FU Y (nI 0) else none) = (if (wF Y (m + 4) (fun j => if 931 * k ≤ j ∧ j < 931 * k + 931 then Y.1 (m + 3) (0 + (j - 931 * k)) else Y.1 (m + 4) j)).1 m 19 = nI k then f_X10_keeps_54 τ m (n + 1) (wF Y (m + 4) (fun j => if 931 * k ≤ j ∧ j < 931 * k + 931 then Y.1 (m + 3) (0 + (j - 931 * k)) else Y.1 (m + 4) j)) (nI 931) else none) := e
    rw [if_pos h, wF_fn (by omega), if_pos h] at e2
    exact e2
  unfold f_X10_keeps_52
  refine Eq.trans e' ?_
  rw [f_X10_keeps_54]
  refine Eq.trans (if_pos (Int32.le_refl _)) ?_
  have m0 := hm.1
  rw [ldI_t m0, stI_t m0, wF_fn (by omega), h, mcp]
  simp only [litM, nI_add]
theorem m_keeps {τ : Sh} {Y : Mx} {m k : Nat} (hm : mdOK τ m) (hk : k ≤ 30) (h : Y.1 m 19 = nI k) : ∃ Y1, f_X10_keeps τ Y m = some Y1 ∧ Y1.2 = Y.2 ∧ (∀ q, q ≠ m → q ≠ m + 4 → Y1.1 q = Y.1 q) ∧ (∀ j, j ≠ 19 → Y1.1 m j = Y.1 m j) ∧ Y1.1 m 19 = nI (if k = 30 then 30 else k + 1) ∧
    (∀ j, j < 931 * (if k = 30 then 29 else k) → Y1.1 (m + 4) j = Y.1 (m + 4) (if k = 30 then 931 + j else j)) ∧ (∀ j, j < 931 → Y1.1 (m + 4) (931 * (if k = 30 then 29 else k) + j) = Y.1 (m + 3) j) := by
  have m0 := hm.1
  by_cases e : k = 30
  · subst e
    obtain ⟨n, e1⟩ := cp_loop (F := fun n s j => f_X10_keeps_13 τ m n s (nI (931 + j))) (Y := Y) (a := m + 4) (a' := m + 4) (off := 0) (src := 931) (N := 26999) (Or.inr (Or.inl (by omega))) (by
      intro n s j hj
      show f_X10_keeps_13 τ m (n + 1) s (nI (931 + j)) = f_X10_keeps_13 τ m n _ (nI (931 + (j + 1)))
      rw [f_X10_keeps_13, Nat.zero_add]
      obtain ⟨m0, m1, m2, m3, m4, m5, m6, m7, m8, m9, m10, m11, m12, m13, m14, m15, m16, m17, mq1, mq2, mq3, mq4, mq5, mq6, mq7, mq8, mq9, mq10, mq11, mq12, mq13, mq14, mq15, mq16, mq17, mn1, mn2, mn3, mn4, mn5, mn6, mn7, mn8, mn9, mn10, mn11, mn12, mn13, mn14, mn15, mn16, mn17⟩ := hm
      simp (disch := first | assumption | omega) only [litM, grd_t, grd_T, ldI_t, stI_t, ldA_t, stA_t, lenA_t, n_lt_t, n_lt_f, n_le_t, n_le_f, n_eq_t, n_eq_f, if_true, if_false, nI_add, nI_mul, bt_d, bI_z, bI_o, Option.bind_some, Bool.true_eq_false, Bool.false_eq_true, ldR, eq_self, if_true, Option.bind_some, m0, m4, nI_sub]
      rfl) (by rw [FU_40000]; omega)
    obtain ⟨Y1, hY1⟩ : ∃ Y1, Y1 = wF Y (m + 4) (fun j => if 0 ≤ j ∧ j < 0 + 26999 then Y.1 (m + 4) (931 + (j - 0)) else Y.1 (m + 4) j) := ⟨_, rfl⟩
    rw [← hY1] at e1
    have g19 : Y1.1 m 19 = nI 30 := by rw [hY1, wF_fn (by omega)]; exact h
    have h2 := m_copy (Y := sI Y1 m 19 (nI 29)) (k := 29) hm (by omega) sI_eq
    refine ⟨mcp (sI Y1 m 19 (nI 29)) m 29, ?_, ?_, fun q q1 q2 => ?_, fun j hj => ?_, ?_, fun j hj => ?_, fun j hj => ?_⟩
    rotate_left
    · rw [mcp, sI_2, wF_2, sI_2, hY1, wF_2]
    · rw [mcp, sI_ne q1, wF_fn q2, sI_ne q1, hY1, wF_fn q2]
    · rw [mcp, sI_nk hj, wF_fn (by omega), sI_nk hj, hY1, wF_fn (by omega)]
    · rw [mcp, sI_eq]; rfl
    · rw [mcp, sI_na (by omega), wF_at, if_neg (by simp only [if_true] at hj; omega), sI_na (by omega), hY1, wF_at, if_pos (by simp only [if_true] at hj; omega)]
      simp only [if_true, Nat.sub_zero]
    · simp only [if_true]
      rw [mcp, sI_na (by omega), wF_at, if_pos (by omega), sI_na (by omega), hY1, wF_fn (by omega), Nat.add_sub_cancel_left, Nat.zero_add]
    · unfold f_X10_keeps
      simp only [litM]
      rw [grd_t m0, ldI_t m0, h, if_pos rfl]
      refine Eq.trans (show _ = f_X10_keeps_13 τ m FU Y (nI (931 + 0)) from rfl) (Eq.trans e1 ?_)
      show f_X10_keeps_13 τ m (n + 1) Y1 (nI 27930) = _
      rw [f_X10_keeps_13]
      refine Eq.trans (if_pos (Int32.le_refl _)) ?_
      rw [ldI_t m0, stI_t m0, g19]
      exact h2
  · refine ⟨mcp Y m k, ?_, ?_, fun q q1 q2 => ?_, fun j hj => ?_, ?_, fun j hj => ?_, fun j hj => ?_⟩
    rotate_left
    · rw [mcp, sI_2, wF_2]
    · rw [mcp, sI_ne q1, wF_fn q2]
    · rw [mcp, sI_nk hj, wF_fn (by omega)]
    · rw [mcp, sI_eq, if_neg e]
    · rw [if_neg e] at hj ⊢
      rw [mcp, sI_na (by omega), wF_at, if_neg (by omega)]
    · rw [if_neg e, mcp, sI_na (by omega), wF_at, if_pos (by omega), Nat.add_sub_cancel_left, Nat.zero_add]
    · unfold f_X10_keeps
      simp only [litM]
      rw [grd_t m0, ldI_t m0, h, if_neg (by rw [n_eq (by omega) (by omega)]; exact e)]
      exact m_copy hm (by omega) h
/-- both kept the act that was prepared -/
theorem acts_kept {σ : Sh} {X Z : Nat → Nat → Int32} {a k f s : Nat} (h : ActsR σ X (a + 47) (X (a + 108) 19) (a + 112)) (hk : k ≤ 30) (hf : f < 31) (p2 : X (a + 47) 2 = nI k) (p1 : X (a + 47) 1 = nI f) (hr : shR σ (a + 48) ((f + k) % 31) = some s) (hS : StR X s (s + 5) (s + 9) (X (a + 111)) 0)
    (z2 : Z (a + 47) 2 = nI (if k = 30 then 30 else k + 1)) (z1 : Z (a + 47) 1 = nI (if k = 30 then (f + 1) % 31 else f)) (zm : Z (a + 108) 19 = nI (if k = 30 then 30 else k + 1)) (zk : ∀ j, j < 931 * (if k = 30 then 29 else k) → Z (a + 112) j = X (a + 112) (if k = 30 then 931 + j else j)) (zn : ∀ j, j < 931 → Z (a + 112) (931 * (if k = 30 then 29 else k) + j) = X (a + 111) j)
    (hz : ∀ q, a + 126 < q → Z q = X q) (hsl : slOK σ a) : ActsR σ Z (a + 47) (Z (a + 108) 19) (a + 112) := by
  obtain ⟨k', f', a1, a2, a3, a4, a5, a6⟩ := h
  have hk' : k' = k := nI_inj (by omega) (by omega) (a3.symm.trans p2)
  have hf' : f' = f := nI_inj (by omega) (by omega) (a5.symm.trans p1)
  subst hk' hf'
  have hb : ∀ j s, j < 31 → shR σ (a + 48) j = some s → a + 126 < s := fun j s h1 h2 => (hsl.1 (a + 48) j s (Or.inl rfl) h1 h2).2
  have new : ∃ s, shR σ (a + 48) ((f' + k') % 31) = some s ∧ StR Z s (s + 5) (s + 9) (Z (a + 112)) (931 * (if k' = 30 then 29 else k')) := by
    have := hb _ s (Nat.mod_lt _ (by omega)) hr
    refine ⟨s, hr, ?_⟩
    exact hS.mv' (fun q q1 q2 => hz q (by omega)) (fun j hj => by rw [Nat.zero_add]; exact zn j hj)
  by_cases e : k' = 30
  · rw [if_pos e] at z2 z1 zm new
    simp only [e, if_true] at zk
    refine ⟨30, (f' + 1) % 31, by omega, Nat.mod_lt _ (by omega), z2, zm, z1, fun i hi => ?_⟩
    rw [show ((f' + 1) % 31 + i) % 31 = (f' + (i + 1)) % 31 by omega]
    by_cases e2 : i = 29
    · subst e2
      rw [e] at new
      exact new
    · obtain ⟨s1, b1, b2⟩ := a6 (i + 1) (by omega)
      have := hb _ s1 (Nat.mod_lt _ (by omega)) b1
      exact ⟨s1, b1, b2.mv' (fun q q1 q2 => hz q (by omega)) (fun j hj => by rw [zk _ (by omega)]; congr 1; omega)⟩
  · rw [if_neg e] at z2 z1 zm new
    simp only [e, if_false] at zk
    refine ⟨k' + 1, f', by omega, a2, z2, zm, z1, fun i hi => ?_⟩
    by_cases e2 : i = k'
    · subst e2
      exact new
    · obtain ⟨s1, b1, b2⟩ := a6 i (by omega)
      have := hb _ s1 (Nat.mod_lt _ (by omega)) b1
      refine ⟨s1, b1, b2.mv' (fun q q1 q2 => hz q (by omega)) (fun j hj => zk _ ?_)⟩
      have : 931 * (i + 1) ≤ 931 * k' := Nat.mul_le_mul_left _ (by omega)
      omega
