/-! ===== unsettle ===== -/
theorem ref_both {σ : Sh} {X Y : Mx} {a L R : Nat} (h : IV σ X a L R) (f : FrQ (sI X (a + 107) 1 (X.1 (a + 107) 1 + nI 1)) Y (a + 108)) : IV σ (sI Y (a + 108 + 2) 1 (Y.1 (a + 108 + 2) 1 + nI 1)) a L R := by
  obtain ⟨f1, f2, f3, f4⟩ := f
  have y107 : Y.1 (a + 107) = (sI X (a + 107) 1 (X.1 (a + 107) 1 + nI 1)).1 (a + 107) := f2 _ (by omega)
  have y110 : Y.1 (a + 108 + 2) = X.1 (a + 110) := by rw [f2 _ (by omega), sI_ne (by omega)]
  have h0 : IV σ (sI Y (a + 107) 1 (X.1 (a + 107) 1)) a L R := by
    refine h.frQ ⟨f1, fun q hq => ?_, fun j hj => ?_, fun j hj => ?_⟩
    · by_cases e : q = a + 107
      · subst e
        funext j
        by_cases e : j = 1
        · subst e; rw [sI_eq]
        · rw [sI_nk e, y107, sI_nk e]
      · rw [sI_ne e, f2 q hq, sI_ne e]
    · rw [sI_na (by omega), f3 j hj, sI_na (by omega)]
    · rw [sI_na (by omega), f4 j hj, sI_na (by omega)]
  refine h0.ref (fun q q1 q2 q3 q4 => ?_) (fun j hj => ?_) (fun j hj => ?_) (fun i hi => ?_)
  · rw [sI_ne (by omega), sI_ne q1]
  · rw [sI_na (by omega), sI_na (by omega)]
  · rw [sI_na (by omega), sI_na (by omega)]
  · have r3 := h.2.1.2.2.2.2.2.2.1 i hi
    rw [sI_na (by omega), y107]
    show _ = (sI Y (a + 108 + 2) 1 (Y.1 (a + 108 + 2) 1 + nI 1)).1 (a + 108 + 2) i
    by_cases e : i = 1
    · subst e
      rw [sI_eq, sI_eq, y110, r3]
    · rw [sI_nk e, sI_nk e, y110, r3]
theorem a_unsettle {σ : Sh} {X : Mx} {a L R z : Nat} {x1 x2 x3 : Int32} (h : IV σ X a L R) (hz : ∀ q ∈ shL σ, q < z) : ActI σ a (f_X9_unsettle σ X z a x1 x2 x3) (fun τ Y => f_X10_unsettle τ Y (a + 108) x1 x2 x3) := by
  have hs := h.1
  have hD := hs.md
  have m0 := hD.1
  have o0 : shK σ a = 7 := h.1.1.1.1
  have o1 : shR σ a 0 = some (a + 1) := h.1.1.1.2.1
  have o4 : shR σ a 3 = some (a + 47) := h.1.1.1.2.2.2.2.1
  have m3 := hD.2.2.2.1
  have mq3 : shK σ (a + 108 + 3) = 10 ∧ shN σ (a + 108 + 3) = 1862 := by
    obtain ⟨m0, m1, m2, m3, m4, m5, m6, m7, m8, m9, m10, m11, m12, m13, m14, m15, m16, m17, mq1, mq2, mq3, mq4, mq5, mq6, mq7, mq8, mq9, mq10, mq11, mq12, mq13, mq14, mq15, mq16, mq17, mn1, mn2, mn3, mn4, mn5, mn6, mn7, mn8, mn9, mn10, mn11, mn12, mn13, mn14, mn15, mn16, mn17⟩ := hD
    exact ⟨mq3, mn3⟩
  have no : f_X9_unsettle_28 a σ X z = some (-(nI 1), σ, sI X (a + 107) 1 (X.1 (a + 107) 1 + nI 1), 0, 0) := by
    unfold f_X9_unsettle_28
    rw [refuseAct hs, bnd2_k]
  have fin : f_X9_unsettle σ X z a x1 x2 x3 = f_X9_unsettle_28 a σ X z → f_X10_unsettle σ (sI X (a + 107) 1 (X.1 (a + 107) 1 + nI 1)) (a + 108) x1 x2 x3 = bnd2 (f_X10_refuses σ (sI (sI X (a + 107) 1 (X.1 (a + 107) 1 + nI 1)) (a + 108) 0 (nI 0)) (a + 108) (nI 1)) (fun v7 X6 => some (v7, X6)) → ActI σ a (f_X9_unsettle σ X z a x1 x2 x3) (fun τ Y => f_X10_unsettle τ Y (a + 108) x1 x2 x3) := by
    intro h1 h2
    refine ⟨-(nI 1), σ, _, 0, 0, _, L, R, h1.trans no, by omega, by omega, ?_, ref_both h (FrQ.fld (k := 0) (v := nI 0) (by omega))⟩
    refine Eq.trans h2 ?_
    rw [m_refuses hD (by omega), bnd2_k]
  rcases id_any x1 x2 x3 with ⟨i1, i2⟩ | ⟨ix, hix, i1, i2, -⟩
  · refine fin ?_ ?_
    · unfold f_X9_unsettle
      simp only [litM]
      rw [grd_t o0, i1, if_pos rfl]
    · unfold f_X10_unsettle f_X10_unsettle_34
      simp only [litM]
      rw [grd_t m0, stI_t m0, i2, if_pos rfl, if_pos trivial]
  · have nn : ¬ nI ix = -(nI 1) := fun e => by
      have := congrArg Int32.toInt e
      rw [nI_toInt (by omega)] at this
      have h1 : (-(nI 1)).toInt = -1 := by decide
      omega
    obtain ⟨hch, hok⟩ := h.ch hix
    have s9 : ∀ τ, IVs τ a L R → shK τ (a + 1) = 4 ∧ shR τ (a + 1) 9 = some (a + 17) ∧ shK τ (a + 17) = 10 ∧ shN τ (a + 17) = 316 := fun τ ht => by
      obtain ⟨s0, s1, s2, s3, s4, s5, s6, s7, s8, s9, s10, s11, s12, s13, s14, s15, s16, s17, s18⟩ := ht.2.1
      exact ⟨s0, s7, s17.1, s17.2⟩
    obtain ⟨t0, t1, t2, t3⟩ := s9 σ hs
    have rd : ∀ Y : Mx, Y.1 (a + 111) (615 + ix) = X.1 (a + 111) (615 + ix) → ∀ {ρ : Type} (k : Int32 → Option ρ), ldA σ Y 10 (a + 108 + 3) (nI 615 + nI ix) k = k (X.1 (a + 17) ix) := fun Y hY ρ k => by
      rw [nI_add, ldA_t mq3.1 (by rw [mq3.2]; omega) (by rw [mq3.2]; omega), hch]
      exact congrArg k hY
    by_cases hv : X.1 (a + 17) ix = -(nI 1)
    · refine fin ?_ ?_
      · unfold f_X9_unsettle
        simp only [litM]
        rw [grd_t o0, i1, if_neg nn]
        simp only [ldR, o0, o1, t0, t1, if_true, Option.bind_some]
        rw [ldA_t t2 (by omega) (by omega), if_pos hv]
      · unfold f_X10_unsettle f_X10_unsettle_34
        simp only [litM]
        rw [grd_t m0, stI_t m0, i2, if_neg nn]
        simp only [ldR, m0, m3, if_true, Option.bind_some]
        rw [rd _ (by rw [sI_na (by omega), sI_na (by omega)]), if_pos hv]
    · obtain ⟨σ1, Xp, c, d, X3, ep, b1, b2, hs1, hXp, e3, hX3, h10, hSn, hY⟩ := choice_both (v := -(nI 1)) h hz hix ⟨Or.inl rfl, fun _ _ => rfl⟩
      obtain ⟨r0, r1, r2, r3⟩ := s9 σ1 hs1
      have q0 : shK σ1 a = 7 := hs1.1.1.1
      have q1 : shR σ1 a 0 = some (a + 1) := hs1.1.1.2.1
      have n0 := hs1.md.1
      have n3 := hs1.md.2.2.2.1
      have nq3 : shK σ1 (a + 108 + 3) = 10 ∧ shN σ1 (a + 108 + 3) = 1862 := by
        obtain ⟨m0, m1, m2, m3, m4, m5, m6, m7, m8, m9, m10, m11, m12, m13, m14, m15, m16, m17, mq1, mq2, mq3, mq4, mq5, mq6, mq7, mq8, mq9, mq10, mq11, mq12, mq13, mq14, mq15, mq16, mq17, mn1, mn2, mn3, mn4, mn5, mn6, mn7, mn8, mn9, mn10, mn11, mn12, mn13, mn14, mn15, mn16, mn17⟩ := hs1.md
        exact ⟨mq3, mn3⟩
      have hx : Xp.1 (a + 17) ix = X.1 (a + 17) ix := by rw [hXp _ (by omega)]
      obtain ⟨Y2, k1, k2, k3, k4, k5⟩ := hY (sI X3 (a + 108) 0 (nI 0)) (fun q hq => by rw [sI_ne (by omega), hX3 q (by omega) (by omega)]) (fun j hj => by rw [sI_nk (by omega), hX3 _ (by omega) (by omega)]) (fun j hj => by rw [sI_na (by omega), hX3 _ (by omega) (by omega)])
      have y2 : ∀ q, q ≠ a + 108 → q ≠ a + 112 → Y2.1 q = X3.1 q := fun q q1 q2 => by rw [k3 q q1 q2, sI_ne q1]
      refine ⟨X.1 (a + 17) ix, σ1, X3, c, d, sI Y2 (a + 108 + 3) (615 + ix) (-(nI 1)), L, R, ?_, b1, b2, ?_, k5 _ (fun q hq => ?_) (fun j hj => ?_) (fun q hq => ?_) (fun j hj => ?_) (fun j hj => ?_) (Or.inl ?_)⟩
      · unfold f_X9_unsettle
        simp only [litM]
        rw [grd_t o0, i1, if_neg nn]
        simp only [ldR, o0, o1, o4, t0, t1, if_true, Option.bind_some]
        rw [ldA_t t2 (by omega) (by omega), if_neg hv, ep, bndH_s]
        simp only [q0, q1, r0, r1, if_true, Option.bind_some]
        rw [ldA_t r2 (by omega) (by omega), stA_t r2 (by omega) (by omega), e3, Option.bind_some, hx, adc_some, Nat.zero_add, Nat.zero_add]
      · unfold f_X10_unsettle f_X10_unsettle_34
        simp only [litM]
        rw [grd_t n0, stI_t n0, i2, if_neg nn]
        simp only [ldR, n0, n3, if_true, Option.bind_some]
        rw [nI_add, ldA_t nq3.1 (by rw [nq3.2]; omega) (by rw [nq3.2]; omega), sI_na (by omega), show X3.1 (a + 108 + 3) (615 + ix) = X.1 (a + 17) ix by rw [hX3 _ (by omega) (by omega), hch], if_neg hv, k1, Option.bind_some, stA_t nq3.1 (by rw [nq3.2]; omega) (by rw [nq3.2]; omega)]
      · rw [sI_ne (by omega), y2 q (by omega) (by omega)]
      · rw [sI_na (by omega), y2 a (by omega) (by omega)]
      · rw [sI_ne (by omega)]
      · rw [sI_na (by omega)]
      · show (sI Y2 (a + 111) (615 + ix) (-(nI 1))).1 (a + 111) j = _
        by_cases e : j = 615 + ix
        · rw [e, sI_eq, if_pos rfl]
        · rw [sI_nk e, if_neg e, y2 _ (by omega) (by omega), hX3 _ (by omega) (by omega)]
      · rw [sI_na (by omega), y2 a (by omega) (by omega)]; exact h10
