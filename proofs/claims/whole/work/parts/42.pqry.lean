/-! ===== questions that change nothing ===== -/
def inR (n : Nat) (x : Int32) : Bool := decide (¬ x < nI 0 ∧ ¬ nI (n + 1) ≤ x)
theorem s_win {x : Int32} {n : Nat} (hn : n + 1 < 2 ^ 31) : f_X10_within x (nI 0) (nI n) = bI (inR n x) := s_within hn
theorem inR_t {n k : Nat} (h : k < n + 1) (hn : n + 1 < 2 ^ 31) : inR n (nI k) = true := decide_eq_true ⟨by rw [n_lt] <;> omega, by rw [n_le] <;> omega⟩
theorem inR_ex {n : Nat} {x : Int32} (hn : n + 1 < 2 ^ 31) (h : inR n x = true) : ∃ k, k < n + 1 ∧ x = nI k := by
  have := of_decide_eq_true h
  exact i32_nat this.1 this.2 hn
theorem inR_f {n : Nat} {x : Int32} (hn : n + 1 < 2 ^ 31) (h : inR n x = false) : ∀ k, k < n + 1 → x ≠ nI k := fun k hk e => by
  rw [e, inR_t hk hn] at h; cases h
theorem inR_n {n : Nat} {x : Int32} (h : inR n x = false) : x < nI 0 ∨ (¬ x < nI 0 ∧ nI (n + 1) ≤ x) := by
  have := of_decide_eq_false h
  by_cases h0 : x < nI 0
  · exact Or.inl h0
  · by_cases h1 : nI (n + 1) ≤ x
    · exact Or.inr ⟨h0, h1⟩
    · exact absurd ⟨h0, h1⟩ this
theorem s10_right {τ : Sh} {Y : Mx} {m w : Nat} {b : Bool} (hm : mdOK τ m) (h0 : Y.1 m 0 = nI 0) (hw : w = 1 ∨ w = 2) : f_X10_right τ Y m (bI b) (nI w) = some (bI b, if b = true then Y else sI Y m 0 (nI w)) := by
  have m0 := hm.1
  cases b with
  | true => simp (disch := first | assumption | omega) only [f_X10_right, f_X10_right_16, litM, grd_t, grd_T, ldI_t, stI_t, ldA_t, stA_t, lenA_t, n_lt_t, n_lt_f, n_le_t, n_le_f, n_eq_t, n_eq_f, if_true, if_false, nI_add, nI_mul, bt_d, bI_z, bI_o, Option.bind_some, Bool.true_eq_false, Bool.false_eq_true, bI_t, h0]
  | false =>
    rcases hw with rfl | rfl
    · simp (disch := first | assumption | omega) only [f_X10_right, f_X10_right_16, litM, grd_t, grd_T, ldI_t, stI_t, ldA_t, stA_t, lenA_t, n_lt_t, n_lt_f, n_le_t, n_le_f, n_eq_t, n_eq_f, if_true, if_false, nI_add, nI_mul, bt_d, bI_z, bI_o, Option.bind_some, Bool.true_eq_false, Bool.false_eq_true, bI_f, h0, sI_eq]
    · simp (disch := first | assumption | omega) only [f_X10_right, f_X10_right_16, litM, grd_t, grd_T, ldI_t, stI_t, ldA_t, stA_t, lenA_t, n_lt_t, n_lt_f, n_le_t, n_le_f, n_eq_t, n_eq_f, if_true, if_false, nI_add, nI_mul, bt_d, bI_z, bI_o, Option.bind_some, Bool.true_eq_false, Bool.false_eq_true, bI_f, h0, sI_eq]
theorem s10_rf {τ : Sh} {Y : Mx} {m w : Nat} (hm : mdOK τ m) (h0 : Y.1 m 0 = nI 0) (hw : w = 1 ∨ w = 2) : f_X10_right τ Y m (nI 0) (nI w) = some (nI 0, sI Y m 0 (nI w)) := s10_right (b := false) hm h0 hw
theorem s10_rt {τ : Sh} {Y : Mx} {m w : Nat} (hm : mdOK τ m) (h0 : Y.1 m 0 = nI 0) (hw : w = 1 ∨ w = 2) : f_X10_right τ Y m (nI 1) (nI w) = some (nI 1, Y) := s10_right (b := true) hm h0 hw
theorem bI_01 (b : Bool) : (bI b = nI 0 ∨ bI b = nI 1) = True := eq_true (by cases b with
  | false => exact Or.inl rfl
  | true => exact Or.inr rfl)
theorem s10_isWhat {τ : Sh} {Y : Mx} {m n : Nat} {x : Int32} (hm : mdOK τ m) (h0 : Y.1 m 0 = nI 0) (hn : n < 100) : f_X10_isWhat τ Y m x (nI n) = some (bI (inR n x), if inR n x = true then Y else sI Y m 0 (nI 1)) := by
  unfold f_X10_isWhat
  rw [grd_t hm.1]
  simp only [litM]
  rw [s_win (by omega), s10_right hm h0 (Or.inl rfl)]
  simp only [bnd2]
  rw [grd_t (of_eq_true (bI_01 _))]
/-- an answer, or what is thrown instead -/
def Out (w : Int32 ⊕ Nat) (b th : Int32) : Prop := (∃ v, w = .inl v ∧ th = nI 0 ∧ b = v) ∨ (∃ k, w = .inr k ∧ k < 2 ∧ th = nI (k + 1))
/-- a question asked of both -/
def Qry (σ : Sh) (a L R : Nat) (fc : Option (Hr (Int32 ⊕ Nat))) (fm : Mx → Option (Int32 × Mx)) : Prop := ∃ w X1 c d, fc = some (w, σ, X1, c, d) ∧ c ≤ 1 ∧ d ≤ 6 ∧ IV σ X1 a L R ∧ ∀ X2 : Mx, X2.1 = X1.1 → ∃ b X3, fm X2 = some (b, X3) ∧ FrQ X2 X3 (a + 108) ∧ Out w b (X3.1 (a + 108) 0)
theorem IVs.md {σ : Sh} {a L R : Nat} (h : IVs σ a L R) : mdOK σ (a + 108) := h.1.2.2.2.2.2.2.2.2.2.2.1
theorem IVs.mg {σ : Sh} {a L R : Nat} (h : IVs σ a L R) : mgOK σ (a + 18) := h.1.2.1
theorem th_0 {X : Mx} {m : Nat} : (sI X m 0 (nI 0)).1 m 0 = nI 0 := sI_eq
theorem th_r {X : Mx} {a : Nat} {j : Nat} : (sI X (a + 108) 0 (nI 0)).1 (a + 111) j = X.1 (a + 111) j := sI_na (by omega)
/-- the reference's merge out of what is kept -/
theorem mrg {σ τ : Sh} {X Y : Mx} {a L R : Nat} (h : IV σ X a L R) (hm : mdOK τ (a + 108)) (hY : ∀ j, j < 931 → Y.1 (a + 111) j = X.1 (a + 111) j) : ∃ Y1, f_X10_merges τ Y (a + 108) (nI 0) = some Y1 ∧ FrY Y Y1 (a + 108) := by
  obtain ⟨X1, -, -, hM, -, hF⟩ := fresh h
  obtain ⟨Y1, n, e1, e2, -, -⟩ := hM τ Y hm (fun j hj => by rw [hY j hj, hF (a + 111) (by omega) (by omega)])
  exact ⟨Y1, e1, e2⟩
theorem bnd2_some {α β ρ : Type} {x : α} {y : β} {k : α → β → Option ρ} : bnd2 (some (x, y)) k = k x y := rfl
theorem bndX_l {α ρ : Type} {x : α} {σ : Sh} {X : Mx} {k : α → Sh → Mx → Nat → Nat → Option (Hr (ρ ⊕ Nat))} : bndX (some (Sum.inl x, σ, X, 0, 0)) k = adc 0 0 (k x σ X 0 0) := rfl
theorem adc_some {ρ : Type} {i j c d : Nat} {r : ρ} {σ : Sh} {X : Mx} : adc i j (some (r, σ, X, c, d)) = some (r, σ, X, c + i, d + j) := rfl
theorem bndX_r {α ρ : Type} {x : Nat} {σ : Sh} {X : Mx} {c d : Nat} {k : α → Sh → Mx → Nat → Nat → Option (Hr (ρ ⊕ Nat))} : bndX (some (Sum.inr x, σ, X, c, d)) k = some (Sum.inr x, σ, X, c, d) := rfl
/-- a Table as the reference sees it -/
def VW (τ : Sh) (X : Nat → Nat → Int32) (ta : Nat) (Y : Mx) (m t : Nat) : Prop :=
  f_X10_hasOf τ Y m (nI t) = some (X ta 0) ∧ f_X10_keysOf τ Y m (nI t) = some (X ta 1) ∧
  (∀ c, c < 9 → bt (X ta 0) c = true → (t = 3 → Y.1 (m + 5) c = X (ta + 1) c ∧ Y.1 (m + 6) c = X (ta + 2) c) ∧ (t < 3 → Y.1 (m + 3) (0 + 200 * t + 2 + c) = X (ta + 1) c ∧ Y.1 (m + 3) (0 + 200 * t + 11 + c) = X (ta + 2) c)) ∧
  (∀ k c, k < 20 → c < 9 → bt (X ta 1) k = true → bt (X ta 0) c = true → (t = 3 → Y.1 (m + 7) (9 * k + c) = X (ta + 3) (9 * k + c)) ∧ (t < 3 → Y.1 (m + 3) (0 + 200 * t + 20 + 9 * k + c) = X (ta + 3) (9 * k + c)))
theorem vw_tab {τ : Sh} {X : Nat → Nat → Int32} {Y : Mx} {m ta t : Nat} (hm : mdOK τ m) (ht : t < 3) (h : TabR X ta (Y.1 (m + 3)) (0 + 200 * t)) : VW τ X ta Y m t := by
  obtain ⟨b0, b1, b2, b3, b4, b5, b6⟩ := h
  refine ⟨?_, ?_, fun c hc hb => ⟨fun e => by omega, fun _ => ⟨(b4 c hc hb).1.symm, (b4 c hc hb).2.1.symm⟩⟩, fun k c hk hc h1 h2 => ⟨fun e => by omega, fun _ => (b5 k c hk hc h1 h2).symm⟩⟩
  · rw [b0, Nat.zero_add]
    obtain ⟨m0, m1, m2, m3, m4, m5, m6, m7, m8, m9, m10, m11, m12, m13, m14, m15, m16, m17, mq1, mq2, mq3, mq4, mq5, mq6, mq7, mq8, mq9, mq10, mq11, mq12, mq13, mq14, mq15, mq16, mq17, mn1, mn2, mn3, mn4, mn5, mn6, mn7, mn8, mn9, mn10, mn11, mn12, mn13, mn14, mn15, mn16, mn17⟩ := hm
    simp (disch := first | assumption | omega) only [f_X10_hasOf, litM, grd_t, grd_T, ldI_t, stI_t, ldA_t, stA_t, lenA_t, n_lt_t, n_lt_f, n_le_t, n_le_f, n_eq_t, n_eq_f, if_true, if_false, nI_add, nI_mul, bt_d, bI_z, bI_o, Option.bind_some, Bool.true_eq_false, Bool.false_eq_true, ldR, eq_self, if_true, Option.bind_some, m0, m3, Nat.add_zero]
  · rw [b1, Nat.zero_add]
    obtain ⟨m0, m1, m2, m3, m4, m5, m6, m7, m8, m9, m10, m11, m12, m13, m14, m15, m16, m17, mq1, mq2, mq3, mq4, mq5, mq6, mq7, mq8, mq9, mq10, mq11, mq12, mq13, mq14, mq15, mq16, mq17, mn1, mn2, mn3, mn4, mn5, mn6, mn7, mn8, mn9, mn10, mn11, mn12, mn13, mn14, mn15, mn16, mn17⟩ := hm
    simp (disch := first | assumption | omega) only [f_X10_keysOf, litM, grd_t, grd_T, ldI_t, stI_t, ldA_t, stA_t, lenA_t, n_lt_t, n_lt_f, n_le_t, n_le_f, n_eq_t, n_eq_f, if_true, if_false, nI_add, nI_mul, bt_d, bI_z, bI_o, Option.bind_some, Bool.true_eq_false, Bool.false_eq_true, ldR, eq_self, if_true, Option.bind_some, m0, m3]
theorem view {σ : Sh} {X : Mx} {a L R : Nat} (h : IV σ X a L R) (x : Int32) : (inR 3 x = false ∧ ∀ z, f_X9_tableOf σ X z a x = some (.inr 0, σ, X, 1, 6)) ∨ ∃ t ta X1, t < 4 ∧ x = nI t ∧ tabOK σ ta ∧ (∀ z, f_X9_tableOf σ X z a x = some (.inl ta, σ, X1, 0, 0)) ∧ IV σ X1 a L R ∧ ∀ Y : Mx, (∀ j, j < 931 → Y.1 (a + 111) j = X1.1 (a + 111) j) → Y.1 (a + 108) 0 = nI 0 → ∃ Y1, f_X10_isTable σ Y (a + 108) (nI t) = some (nI 1, Y1) ∧ FrY Y Y1 (a + 108) ∧ VW σ X1.1 ta Y1 (a + 108) t := by
  have hs := h.1
  obtain ⟨⟨⟨o0, o1, o2, o3, o4, o5, o6, o7, o8, o9, o10⟩, oM, oT, oA, oS, oQ, oI, oA2, oS2, oR, oD, oO⟩, hst, hsl, hsh⟩ := id hs
  have ist : ∀ (t : Nat) (Y : Mx), t < 3 → Y.1 (a + 108) 0 = nI 0 → f_X10_isTable σ Y (a + 108) (nI t) = some (nI 1, Y) := by
    intro t Y ht h0
    unfold f_X10_isTable
    rw [grd_t oD.1]
    simp only [litM]
    rw [s_win (by omega), inR_t (by omega) (by omega), s10_right oD h0 (Or.inl rfl)]
    simp (disch := first | assumption | omega) only [litM, grd_t, grd_T, ldI_t, stI_t, ldA_t, stA_t, lenA_t, n_lt_t, n_lt_f, n_le_t, n_le_f, n_eq_t, n_eq_f, if_true, if_false, nI_add, nI_mul, bt_d, bI_z, bI_o, Option.bind_some, Bool.true_eq_false, Bool.false_eq_true, bnd2, bI_t]
  have base : ∀ t ta, t < 3 → x = nI t → tabOK σ ta → (∀ z, f_X9_tableOf σ X z a x = some (.inl ta, σ, X, 0, 0)) → TabR X.1 ta (X.1 (a + 111)) (0 + 200 * t) → ∃ t ta X1, t < 4 ∧ x = nI t ∧ tabOK σ ta ∧ (∀ z, f_X9_tableOf σ X z a x = some (.inl ta, σ, X1, 0, 0)) ∧ IV σ X1 a L R ∧ ∀ Y : Mx, (∀ j, j < 931 → Y.1 (a + 111) j = X1.1 (a + 111) j) → Y.1 (a + 108) 0 = nI 0 → ∃ Y1, f_X10_isTable σ Y (a + 108) (nI t) = some (nI 1, Y1) ∧ FrY Y Y1 (a + 108) ∧ VW σ X1.1 ta Y1 (a + 108) t := by
    intro t ta ht hx hta hf hT
    exact ⟨t, ta, X, by omega, hx, hta, hf, h, fun Y hY h0 => ⟨Y, ist t Y ht h0, FrY.refl, vw_tab oD ht (hT.fr (fun _ _ _ => rfl) (fun j h1 h2 => hY j (by omega)))⟩⟩
  cases hx : inR 3 x with
  | false =>
    refine Or.inl ⟨rfl, fun z => ?_⟩
    have n0 := inR_f (by omega) hx 0 (by omega)
    have n1 := inR_f (by omega) hx 1 (by omega)
    have n2 := inR_f (by omega) hx 2 (by omega)
    have n3 := inR_f (by omega) hx 3 (by omega)
    simp (disch := first | assumption | omega) only [f_X9_tableOf, litM, grd_t, n0, n1, n2, n3, if_false]
  | true =>
    refine Or.inr ?_
    obtain ⟨t, ht, rfl⟩ := inR_ex (by omega) hx
    have hst' := hst
    obtain ⟨s0, s1, s2, s3, s4, s5, s6, s7, s8, s9, s10, s11, s12, s13, s14, s15, s16, s17, s18⟩ := hst
    rcases (show t = 0 ∨ t = 1 ∨ t = 2 ∨ t = 3 by omega) with rfl | rfl | rfl | rfl
    · refine base 0 L (by omega) rfl s9 (fun z => ?_) h.2.1.1.1
      simp (disch := first | assumption | omega) only [f_X9_tableOf, litM, grd_t, grd_T, ldI_t, stI_t, ldA_t, stA_t, lenA_t, n_lt_t, n_lt_f, n_le_t, n_le_f, n_eq_t, n_eq_f, if_true, if_false, nI_add, nI_mul, bt_d, bI_z, bI_o, Option.bind_some, Bool.true_eq_false, Bool.false_eq_true, ldR, eq_self, if_true, Option.bind_some, o0, o1, s0, s2]
    · refine base 1 R (by omega) rfl s10 (fun z => ?_) h.2.1.1.2.1
      simp (disch := first | assumption | omega) only [f_X9_tableOf, litM, grd_t, grd_T, ldI_t, stI_t, ldA_t, stA_t, lenA_t, n_lt_t, n_lt_f, n_le_t, n_le_f, n_eq_t, n_eq_f, if_true, if_false, nI_add, nI_mul, bt_d, bI_z, bI_o, Option.bind_some, Bool.true_eq_false, Bool.false_eq_true, ldR, eq_self, if_true, Option.bind_some, o0, o1, s0, s3]
    · refine base 2 (a + 1 + 1) (by omega) rfl s8 (fun z => ?_) h.2.1.1.2.2.1
      simp (disch := first | assumption | omega) only [f_X9_tableOf, litM, grd_t, grd_T, ldI_t, stI_t, ldA_t, stA_t, lenA_t, n_lt_t, n_lt_f, n_le_t, n_le_f, n_eq_t, n_eq_f, if_true, if_false, nI_add, nI_mul, bt_d, bI_z, bI_o, Option.bind_some, Bool.true_eq_false, Bool.false_eq_true, ldR, eq_self, if_true, Option.bind_some, o0, o1, s0, s1]
    · obtain ⟨X1, e1, h1, hM, hF, hF2⟩ := fresh h
      refine ⟨3, a + 18 + 1, X1, by omega, rfl, oM.2.2.2.2.2.2.2.1, fun z => ?_, h1, fun Y hY h0 => ?_⟩
      · simp (disch := first | assumption | omega) only [f_X9_tableOf, litM, grd_t, grd_T, ldI_t, stI_t, ldA_t, stA_t, lenA_t, n_lt_t, n_lt_f, n_le_t, n_le_f, n_eq_t, n_eq_f, if_true, if_false, nI_add, nI_mul, bt_d, bI_z, bI_o, Option.bind_some, Bool.true_eq_false, Bool.false_eq_true, o0, e1, bnd2, ldR_g oM]
      · obtain ⟨Y1, n, k1, k2, k3, k4⟩ := hM σ Y oD hY
        refine ⟨Y1, ?_, k2, ?_, ?_, fun c hc hb => ⟨fun _ => ?_, fun e => by omega⟩, fun k c hk hc q1 q2 => ⟨fun _ => ?_, fun e => by omega⟩⟩
        · unfold f_X10_isTable
          rw [grd_t oD.1]
          simp only [litM]
          rw [s_win (by omega), inR_t (by omega) (by omega), s10_right oD h0 (Or.inl rfl)]
          simp (disch := first | assumption | omega) only [litM, grd_t, grd_T, ldI_t, stI_t, ldA_t, stA_t, lenA_t, n_lt_t, n_lt_f, n_le_t, n_le_f, n_eq_t, n_eq_f, if_true, if_false, nI_add, nI_mul, bt_d, bI_z, bI_o, Option.bind_some, Bool.true_eq_false, Bool.false_eq_true, bnd2, bI_t, k1]
        · have := k4.1.1
          have m0 := oD.1
          simp (disch := first | assumption | omega) only [f_X10_hasOf, litM, grd_t, grd_T, ldI_t, stI_t, ldA_t, stA_t, lenA_t, n_lt_t, n_lt_f, n_le_t, n_le_f, n_eq_t, n_eq_f, if_true, if_false, nI_add, nI_mul, bt_d, bI_z, bI_o, Option.bind_some, Bool.true_eq_false, Bool.false_eq_true]
          rw [this]
        · have := k4.1.2.1
          have m0 := oD.1
          simp (disch := first | assumption | omega) only [f_X10_keysOf, litM, grd_t, grd_T, ldI_t, stI_t, ldA_t, stA_t, lenA_t, n_lt_t, n_lt_f, n_le_t, n_le_f, n_eq_t, n_eq_f, if_true, if_false, nI_add, nI_mul, bt_d, bI_z, bI_o, Option.bind_some, Bool.true_eq_false, Bool.false_eq_true]
          rw [this]
        · have e := k4.1.1
          rw [e] at hb
          have := k4.1.2.2.2.2.1 c hc hb
          exact ⟨this.1.symm, this.2.1.symm⟩
        · have e := k4.1.1
          have e' := k4.1.2.1
          rw [e] at q2
          rw [e'] at q1
          exact (k4.1.2.2.2.2.2.1 k c hk hc (by omega) q1 q2).1.symm
theorem q_table {σ : Sh} {X : Mx} {a L R z : Nat} {x y : Int32} (h : IV σ X a L R) : Qry σ a L R (f_X9_table σ X z a x y) (fun X2 => f_X10_table σ X2 (a + 108) x y) := by
  have hs := h.1
  have o0 := hs.1.1.1
  have hD := hs.md
  have m0 := hD.1
  rcases view h x with ⟨v1, v2⟩ | ⟨t, ta, X1, ht, rfl, hta, v2, h1, v3⟩
  · refine ⟨.inr 0, X, 1, 6, ?_, by omega, by omega, h, fun X2 e2 => ?_⟩
    · simp (disch := first | assumption | omega) only [f_X9_table, litM, grd_t, grd_T, ldI_t, stI_t, ldA_t, stA_t, lenA_t, n_lt_t, n_lt_f, n_le_t, n_le_f, n_eq_t, n_eq_f, if_true, if_false, nI_add, nI_mul, bt_d, bI_z, bI_o, Option.bind_some, Bool.true_eq_false, Bool.false_eq_true, v2, bndX_r]
    · refine ⟨nI 0, sI (sI X2 (a + 108) 0 (nI 0)) (a + 108) 0 (nI 1), ?_, (FrQ.fld (by omega)).trans (FrQ.fld (by omega)), Or.inr ⟨0, rfl, by omega, sI_eq⟩⟩
      simp (disch := first | assumption | omega) only [f_X10_table, litM, grd_t, grd_T, ldI_t, stI_t, ldA_t, stA_t, lenA_t, n_lt_t, n_lt_f, n_le_t, n_le_f, n_eq_t, n_eq_f, if_true, if_false, nI_add, nI_mul, bt_d, bI_z, bI_o, Option.bind_some, Bool.true_eq_false, Bool.false_eq_true, f_X10_isTable, s_win, v1, s10_rf hD th_0 (Or.inl rfl), bnd2, bI_f]
  · have key : ∀ X2 : Mx, X2.1 = X1.1 → ∃ Y1, f_X10_isTable σ (sI X2 (a + 108) 0 (nI 0)) (a + 108) (nI t) = some (nI 1, Y1) ∧ FrY (sI X2 (a + 108) 0 (nI 0)) Y1 (a + 108) ∧ VW σ X1.1 ta Y1 (a + 108) t := fun X2 e2 => v3 _ (fun j _ => by rw [th_r, e2]) sI_eq
    by_cases y0 : y = nI 0
    · subst y0
      refine ⟨.inl (X1.1 ta 0), X1, 0, 0, ?_, by omega, by omega, h1, fun X2 e2 => ?_⟩
      · have := hta.1
        simp (disch := first | assumption | omega) only [f_X9_table, litM, grd_t, grd_T, ldI_t, stI_t, ldA_t, stA_t, lenA_t, n_lt_t, n_lt_f, n_le_t, n_le_f, n_eq_t, n_eq_f, if_true, if_false, nI_add, nI_mul, bt_d, bI_z, bI_o, Option.bind_some, Bool.true_eq_false, Bool.false_eq_true, v2, bndX_l, adc_some]
      · obtain ⟨Y1, k1, k2, k3⟩ := key X2 e2
        have h0 : Y1.1 (a + 108) 0 = nI 0 := (k2.2.2 0 (by omega) (by omega) (by omega)).trans sI_eq
        refine ⟨X1.1 ta 0, Y1, ?_, (FrQ.fld (by omega)).trans k2.q, Or.inl ⟨_, rfl, h0, rfl⟩⟩
        simp (disch := first | assumption | omega) only [f_X10_table, litM, grd_t, grd_T, ldI_t, stI_t, ldA_t, stA_t, lenA_t, n_lt_t, n_lt_f, n_le_t, n_le_f, n_eq_t, n_eq_f, if_true, if_false, nI_add, nI_mul, bt_d, bI_z, bI_o, Option.bind_some, Bool.true_eq_false, Bool.false_eq_true, k1, bnd2, s10_isWhat hD h0, inR_t, bI_t, k3.1]
    · by_cases y1 : y = nI 1
      · subst y1
        refine ⟨.inl (X1.1 ta 1), X1, 0, 0, ?_, by omega, by omega, h1, fun X2 e2 => ?_⟩
        · have := hta.1
          simp (disch := first | assumption | omega) only [f_X9_table, litM, grd_t, grd_T, ldI_t, stI_t, ldA_t, stA_t, lenA_t, n_lt_t, n_lt_f, n_le_t, n_le_f, n_eq_t, n_eq_f, if_true, if_false, nI_add, nI_mul, bt_d, bI_z, bI_o, Option.bind_some, Bool.true_eq_false, Bool.false_eq_true, v2, bndX_l, adc_some]
        · obtain ⟨Y1, k1, k2, k3⟩ := key X2 e2
          have h0 : Y1.1 (a + 108) 0 = nI 0 := (k2.2.2 0 (by omega) (by omega) (by omega)).trans sI_eq
          refine ⟨X1.1 ta 1, Y1, ?_, (FrQ.fld (by omega)).trans k2.q, Or.inl ⟨_, rfl, h0, rfl⟩⟩
          simp (disch := first | assumption | omega) only [f_X10_table, litM, grd_t, grd_T, ldI_t, stI_t, ldA_t, stA_t, lenA_t, n_lt_t, n_lt_f, n_le_t, n_le_f, n_eq_t, n_eq_f, if_true, if_false, nI_add, nI_mul, bt_d, bI_z, bI_o, Option.bind_some, Bool.true_eq_false, Bool.false_eq_true, k1, bnd2, s10_isWhat hD h0, inR_t, bI_t, k3.2.1]
      · have hy : inR 1 y = false := by
          cases e : inR 1 y with
          | false => rfl
          | true =>
            obtain ⟨k, hk, rfl⟩ := inR_ex (by omega) e
            rcases (show k = 0 ∨ k = 1 by omega) with rfl | rfl
            · exact absurd rfl y0
            · exact absurd rfl y1
        refine ⟨.inr 0, X1, 1, 6, ?_, by omega, by omega, h1, fun X2 e2 => ?_⟩
        · simp (disch := first | assumption | omega) only [f_X9_table, litM, grd_t, grd_T, ldI_t, stI_t, ldA_t, stA_t, lenA_t, n_lt_t, n_lt_f, n_le_t, n_le_f, n_eq_t, n_eq_f, if_true, if_false, nI_add, nI_mul, bt_d, bI_z, bI_o, Option.bind_some, Bool.true_eq_false, Bool.false_eq_true, v2, bndX_l, adc_some, y0, y1]
        · obtain ⟨Y1, k1, k2, k3⟩ := key X2 e2
          have h0 : Y1.1 (a + 108) 0 = nI 0 := (k2.2.2 0 (by omega) (by omega) (by omega)).trans sI_eq
          refine ⟨nI 0, sI Y1 (a + 108) 0 (nI 1), ?_, ((FrQ.fld (by omega)).trans k2.q).trans (FrQ.fld (by omega)), Or.inr ⟨0, rfl, by omega, sI_eq⟩⟩
          simp (disch := first | assumption | omega) only [f_X10_table, litM, grd_t, grd_T, ldI_t, stI_t, ldA_t, stA_t, lenA_t, n_lt_t, n_lt_f, n_le_t, n_le_f, n_eq_t, n_eq_f, if_true, if_false, nI_add, nI_mul, bt_d, bI_z, bI_o, Option.bind_some, Bool.true_eq_false, Bool.false_eq_true, k1, bnd2, s10_isWhat hD h0, hy, bI_f]
