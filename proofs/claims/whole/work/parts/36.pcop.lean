/-! ===== States and rows copied ===== -/
theorem cpX_fn {X : Mx} {s p d q n b : Nat} (h : b ≠ d) : (cpX X s p d q n).1 b = X.1 b := by
  rw [cpX_wF]; exact wF_fn h
theorem cpX_in {X : Mx} {s d n j : Nat} (h : j < n) : (cpX X s 0 d 0 n).1 d j = X.1 s j := by
  rw [cpX_wF, wF_at]; simp [va_cpy, h]
theorem cpX_2 {X : Mx} {s p d q n : Nat} : (cpX X s p d q n).2 = X.2 := rfl
/-- a State at a in Z is as the one at s in X -/
def StC (X : Nat → Nat → Int32) (s L R : Nat) (Z : Nat → Nat → Int32) (a La Ra : Nat) : Prop :=
  (∀ (p q : Nat), (p = s + 1 ∧ q = a + 1) ∨ (p = L ∧ q = La) ∨ (p = R ∧ q = Ra) → Z q 0 = X p 0 ∧ Z q 1 = X p 1 ∧ (∀ j, j < 9 → Z (q + 1) j = X (p + 1) j) ∧ (∀ j, j < 9 → Z (q + 2) j = X (p + 2) j) ∧ (∀ j, j < 180 → Z (q + 3) j = X (p + 3) j)) ∧
  Z a 3 = X s 3 ∧ Z a 4 = X s 4 ∧ Z a 5 = X s 5 ∧ (∀ j, j < 4 → Z (a + 13) j = X (s + 13) j) ∧ (∀ j, j < 4 → Z (a + 14) j = X (s + 14) j) ∧ (∀ j, j < 4 → Z (a + 15) j = X (s + 15) j) ∧ (∀ j, j < 316 → Z (a + 16) j = X (s + 16) j)
theorem StR.cp {X Z : Nat → Nat → Int32} {s L R a La Ra b b1 : Nat} {W W1 : Nat → Int32} (h : StR X s L R W b) (c : StC X s L R Z a La Ra) (hw : ∀ j, j < 931 → W1 (b1 + j) = W (b + j)) : StR Z a La Ra W1 b1 :=
  h.mv c.1 c.2.1 c.2.2.1 c.2.2.2.1 c.2.2.2.2.1 c.2.2.2.2.2.1 c.2.2.2.2.2.2.1 c.2.2.2.2.2.2.2 hw
theorem stOK.lr {σ : Sh} {s L R : Nat} (h : stOK σ s L R) : (L = s + 5 ∧ R = s + 9) ∨ (L = s + 9 ∧ R = s + 5) := h.2.2.2.2.2.2.2.2.2.2.2.2.2.2.2.2.2.2
theorem st_copy {σ : Sh} {X : Mx} {a La Ra s L R : Nat} (ha : stOK σ a La Ra) (hs : stOK σ s L R) (hd : a + 16 < s ∨ s + 16 < a) : ∃ Z, f_X5_copyFrom σ X a s = some Z ∧ FrX X Z a (a + 16) ∧ StC X.1 s L R Z.1 a La Ra := by
  have la := ha.lr
  have ls := hs.lr
  have ha' := ha
  have hs' := hs
  obtain ⟨x0, x1, x2, x3, x4, x5, x6, x7, x8, x9, x10, x11, x12, x13, x14, x15, x16, x17, x18⟩ := ha
  obtain ⟨s0, s1, s2, s3, s4, s5, s6, s7, s8, s9, s10, s11, s12, s13, s14, s15, s16, s17, s18⟩ := hs
  obtain ⟨x17, x19⟩ := x17
  obtain ⟨s17, s19⟩ := s17
  obtain ⟨Z1, e1, z1, f1, p0, p1, p2, p3, p4⟩ := s_copy6 (X := X) x8 s8 (by omega)
  obtain ⟨Z2, e2, z2, f2, q0, q1, q2, q3, q4⟩ := s_copy6 (X := Z1) x9 s9 (by omega)
  obtain ⟨Z3, e3, z3, f3, r0, r1, r2, r3, r4⟩ := s_copy6 (X := Z2) x10 s10 (by omega)
  have g3 : ∀ q, (q < a ∨ a + 16 < q) → Z3.1 q = X.1 q := fun q hq => by rw [f3 q (by omega), f2 q (by omega), f1 q (by omega)]
  have ga : Z3.1 a = X.1 a := by rw [f3 a (by omega), f2 a (by omega), f1 a (by omega)]
  obtain ⟨Z4, hZ4⟩ : ∃ Z, Z = sI (sI (sI Z3 a 3 (X.1 s 3)) a 4 (X.1 s 4)) a 5 (X.1 s 5) := ⟨_, rfl⟩
  have g4 : ∀ q, q ≠ a → Z4.1 q = Z3.1 q := fun q hq => by rw [hZ4, sI_ne hq, sI_ne hq, sI_ne hq]
  refine ⟨cpX (cpX (cpX (cpX Z4 (s + 13) 0 (a + 13) 0 4) (s + 14) 0 (a + 14) 0 4) (s + 15) 0 (a + 15) 0 4) (s + 16) 0 (a + 16) 0 316, ?_, ⟨?_, fun q hq => ?_⟩, fun p q hpq => ?_, ?_, ?_, ?_, fun j hj => ?_, fun j hj => ?_, fun j hj => ?_, fun j hj => ?_⟩
  · have gs := g3 s (by omega)
    simp (disch := first | assumption | omega) only [f_X5_copyFrom, litM, grd_t, grd_T, ldI_t, stI_t, ldA_t, stA_t, lenA_t, n_lt_t, n_lt_f, n_le_t, n_le_f, n_eq_t, n_eq_f, if_true, if_false, nI_add, nI_mul, bt_d, bI_z, bI_o, Option.bind_some, Bool.true_eq_false, Bool.false_eq_true, ldR, eq_self, if_true, Option.bind_some, x0, x1, x2, x3, x4, x5, x6, x7, s0, s1, s2, s3, s4, s5, s6, s7, e1, e2, e3, cpA_t, sI_na, gs]
    rw [hZ4]
  · rw [cpX_2, cpX_2, cpX_2, cpX_2, hZ4]
    exact (show Z3.2 = X.2 from z3.trans (z2.trans z1))
  · rw [cpX_fn (by omega), cpX_fn (by omega), cpX_fn (by omega), cpX_fn (by omega), g4 q (by omega)]; exact g3 q hq
  · have hq : ∀ i, i < 4 → (cpX (cpX (cpX (cpX Z4 (s + 13) 0 (a + 13) 0 4) (s + 14) 0 (a + 14) 0 4) (s + 15) 0 (a + 15) 0 4) (s + 16) 0 (a + 16) 0 316).1 (q + i) = Z3.1 (q + i) := fun i hi => by
      rw [cpX_fn (by omega), cpX_fn (by omega), cpX_fn (by omega), cpX_fn (by omega), g4 _ (by omega)]
    rw [show (cpX (cpX (cpX (cpX Z4 (s + 13) 0 (a + 13) 0 4) (s + 14) 0 (a + 14) 0 4) (s + 15) 0 (a + 15) 0 4) (s + 16) 0 (a + 16) 0 316).1 q = Z3.1 q from hq 0 (by omega), hq 1 (by omega), hq 2 (by omega), hq 3 (by omega)]
    rcases hpq with ⟨rfl, rfl⟩ | ⟨rfl, rfl⟩ | ⟨rfl, rfl⟩
    · have e : ∀ i, i < 4 → Z3.1 (a + 1 + i) = Z1.1 (a + 1 + i) := fun i hi => by rw [f3 _ (by omega), f2 _ (by omega)]
      rw [show Z3.1 (a + 1) = Z1.1 (a + 1) from e 0 (by omega), e 1 (by omega), e 2 (by omega), e 3 (by omega)]
      exact ⟨p0, p1, p2, p3, p4⟩
    · have e : ∀ i, i < 4 → Z3.1 (q + i) = Z2.1 (q + i) := fun i hi => by rw [f3 _ (by omega)]
      have e2 : ∀ i, i < 4 → Z1.1 (p + i) = X.1 (p + i) := fun i hi => by rw [f1 _ (by omega)]
      have h1 : Z1.1 p = X.1 p := e2 0 (by omega)
      rw [show Z3.1 q = Z2.1 q from e 0 (by omega), e 1 (by omega), e 2 (by omega), e 3 (by omega), ← h1, ← e2 1 (by omega), ← e2 2 (by omega), ← e2 3 (by omega)]
      exact ⟨q0, q1, q2, q3, q4⟩
    · have e2 : ∀ i, i < 4 → Z2.1 (p + i) = X.1 (p + i) := fun i hi => by rw [f2 _ (by omega), f1 _ (by omega)]
      have h1 : Z2.1 p = X.1 p := e2 0 (by omega)
      rw [← h1, ← e2 1 (by omega), ← e2 2 (by omega), ← e2 3 (by omega)]
      exact ⟨r0, r1, r2, r3, r4⟩
  · rw [cpX_fn (by omega), cpX_fn (by omega), cpX_fn (by omega), cpX_fn (by omega), hZ4, sI_nk (by omega), sI_nk (by omega), sI_eq]
  · rw [cpX_fn (by omega), cpX_fn (by omega), cpX_fn (by omega), cpX_fn (by omega), hZ4, sI_nk (by omega), sI_eq]
  · rw [cpX_fn (by omega), cpX_fn (by omega), cpX_fn (by omega), cpX_fn (by omega), hZ4, sI_eq]
  · rw [cpX_fn (by omega), cpX_fn (by omega), cpX_fn (by omega), cpX_in hj, g4 _ (by omega), g3 _ (by omega)]
  · rw [cpX_fn (by omega), cpX_fn (by omega), cpX_in hj, cpX_fn (by omega), g4 _ (by omega), g3 _ (by omega)]
  · rw [cpX_fn (by omega), cpX_in hj, cpX_fn (by omega), cpX_fn (by omega), g4 _ (by omega), g3 _ (by omega)]
  · rw [cpX_in hj, cpX_fn (by omega), cpX_fn (by omega), cpX_fn (by omega), g4 _ (by omega), g3 _ (by omega)]
/-- a stretch of an array copied in order -/
theorem cp_loop {ρ : Type} {F : Nat → Mx → Nat → Option ρ} {Y : Mx} {a a' off src N : Nat} (hd : a' ≠ a ∨ off ≤ src ∨ src + N ≤ off) (step : ∀ n s k, k < N → F (n + 1) s k = F n (sI s a (off + k) (s.1 a' (src + k))) (k + 1)) (hN : N < FU) : ∃ n, F FU Y 0 = F (n + 1) (wF Y a (fun j => if off ≤ j ∧ j < off + N then Y.1 a' (src + (j - off)) else Y.1 a j)) N := by
  obtain ⟨n, s, e, i⟩ := up_loop F N (fun k s => s = wF Y a (fun j => if off ≤ j ∧ j < off + k then Y.1 a' (src + (j - off)) else Y.1 a j)) (by
    intro n k s hk hs
    refine ⟨sI s a (off + k) (s.1 a' (src + k)), step n s k hk, ?_⟩
    have hr : s.1 a' (src + k) = Y.1 a' (src + k) := by
      rw [hs]
      by_cases e : a' = a
      · subst e
        rw [wF_at, if_neg (by omega)]
      · rw [wF_na e]
    rw [hr, hs, sI_wF, wF_wF]
    congr 1
    funext j
    rw [wF_at]
    by_cases e : j = off + k
    · rw [if_pos e, if_pos (show off ≤ j ∧ j < off + (k + 1) by omega), show src + (j - off) = src + k by omega]
    · rw [if_neg e]
      by_cases e2 : off ≤ j ∧ j < off + k
      · rw [if_pos e2, if_pos (by omega)]
      · rw [if_neg e2, if_neg (by omega)]) FU 0 Y (by omega) (by
        rw [show (fun j => if off ≤ j ∧ j < off + 0 then Y.1 a' (src + (j - off)) else Y.1 a j) = Y.1 a from funext fun j => if_neg (by omega), wF_self]) (by omega)
  exact ⟨n, by rw [e, i]⟩
theorem FU_40000 : FU = 40000 := rfl
/-- rows are tried on a second row -/
theorem s10_tries {τ : Sh} {Y : Mx} {m : Nat} (hm : mdOK τ m) : f_X10_tries τ Y m = some (wF Y (m + 3) (fun j => if 931 ≤ j ∧ j < 931 + 931 then Y.1 (m + 3) (0 + (j - 931)) else Y.1 (m + 3) j)) := by
  obtain ⟨n, e⟩ := cp_loop (F := fun n s k => f_X10_tries_2 τ m n s (nI k)) (Y := Y) (a := m + 3) (a' := m + 3) (off := 931) (src := 0) (N := 931) (Or.inr (Or.inr (by omega))) (by
    intro n s k hk
    show f_X10_tries_2 τ m (n + 1) s (nI k) = f_X10_tries_2 τ m n _ (nI (k + 1))
    rw [f_X10_tries_2, Nat.zero_add]
    obtain ⟨m0, m1, m2, m3, m4, m5, m6, m7, m8, m9, m10, m11, m12, m13, m14, m15, m16, m17, mq1, mq2, mq3, mq4, mq5, mq6, mq7, mq8, mq9, mq10, mq11, mq12, mq13, mq14, mq15, mq16, mq17, mn1, mn2, mn3, mn4, mn5, mn6, mn7, mn8, mn9, mn10, mn11, mn12, mn13, mn14, mn15, mn16, mn17⟩ := hm
    simp (disch := first | assumption | omega) only [litM, grd_t, grd_T, ldI_t, stI_t, ldA_t, stA_t, lenA_t, n_lt_t, n_lt_f, n_le_t, n_le_f, n_eq_t, n_eq_f, if_true, if_false, nI_add, nI_mul, bt_d, bI_z, bI_o, Option.bind_some, Bool.true_eq_false, Bool.false_eq_true, ldR, eq_self, if_true, Option.bind_some, m0, m3]) (by rw [FU_40000]; omega)
  unfold f_X10_tries
  rw [grd_t hm.1]
  refine Eq.trans e ?_
  show f_X10_tries_2 τ m (n + 1) _ (nI 931) = _
  rw [f_X10_tries_2]
  exact if_pos (Int32.le_refl _)
