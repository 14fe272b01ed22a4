theorem a_settle {σ : Sh} {X : Mx} {a L R z : Nat} {x1 x2 x3 x4 : Int32} (h : IV σ X a L R) (hz : ∀ q ∈ shL σ, q < z) : ActI σ a (f_X9_settle σ X z a x1 x2 x3 x4) (fun τ Y => f_X10_settle τ Y (a + 108) x1 x2 x3 x4) := by
  have hs := h.1
  have hD := hs.md
  have m0 := hD.1
  have o0 : shK σ a = 7 := h.1.1.1.1
  have o1 : shR σ a 0 = some (a + 1) := h.1.1.1.2.1
  have o4 : shR σ a 3 = some (a + 47) := h.1.1.1.2.2.2.2.1
  obtain ⟨X1, e1, h1, hC, hF, hF2⟩ := fresh h
  -- a refusal, of the memory V
  have fin : ∀ V : Mx, IV σ V a L R → (∀ j, j < 931 → V.1 (a + 111) j = X1.1 (a + 111) j) → f_X9_settle σ X z a x1 x2 x3 x4 = f_X9_settle_41 a σ V z → (∀ Y Y1 n, f_X10_merges σ Y (a + 108) (nI 0) = some Y1 → n ≤ 299 → MR n (X1.1 (a + 17)) (X1.1 L 0) (X1.1 R 0) X1.1 (a + 18) Y1.1 (a + 108) → (f_X10_isConflict σ Y1 (a + 108) x1 x2 x3).bind (fun v5 => (if v5 = nI 0 then f_X10_settle_35 σ (a + 108) Y1 else (if (f_X10_within x4 (nI 0) ((f_X10_choicesOf x1) - nI 1)) = nI 0 then f_X10_settle_35 σ (a + 108) Y1 else (f_X10_keeps σ Y1 (a + 108)).bind fun X7 => ldR σ 8 (a + 108) 17 fun b8 => stA σ X7 10 b8 (nI 615 + (f_X10_choiceAt x1 x2 x3)) x4 fun X9 => (f_X10_merges σ X9 (a + 108) (nI 0)).bind fun X11 => ldI σ X11 8 (a + 108) 22 fun v12 => some (v12, X11)))) = f_X10_settle_35 σ (a + 108) Y1) → ActI σ a (f_X9_settle σ X z a x1 x2 x3 x4) (fun τ Y => f_X10_settle τ Y (a + 108) x1 x2 x3 x4) := by
    intro V hV hVr hcl hmd
    obtain ⟨Y1, n, k1, k2, k3, k4⟩ := hC σ (sI (sI V (a + 107) 1 (V.1 (a + 107) 1 + nI 1)) (a + 108) 0 (nI 0)) hD (fun j hj => by rw [sI_na (by omega), sI_na (by omega)]; exact hVr j hj)
    refine ⟨-(nI 1), σ, sI V (a + 107) 1 (V.1 (a + 107) 1 + nI 1), 0, 0, sI Y1 (a + 108 + 2) 1 (Y1.1 (a + 108 + 2) 1 + nI 1), L, R, ?_, by omega, by omega, ?_, ref_both hV ((FrQ.fld (k := 0) (v := nI 0) (by omega)).trans k2.q)⟩
    · rw [hcl]
      unfold f_X9_settle_41
      rw [refuseAct hs, bnd2_k]
    · have := hmd _ Y1 n k1 k3 k4
      unfold f_X10_settle
      simp only [litM]
      rw [grd_t m0, stI_t m0, k1, Option.bind_some]
      refine Eq.trans this ?_
      unfold f_X10_settle_35
      simp only [litM]
      rw [m_refuses hD (by omega), bnd2_k]
  rcases id_any x1 x2 x3 with ⟨i1, i2⟩ | ⟨ix, hix, hR⟩
  · refine fin X h (fun j hj => by rw [hF2 _ (by omega) (by omega)]) ?_ ?_
    · unfold f_X9_settle
      simp only [litM]
      rw [grd_t o0, i1, if_pos rfl]
    · intro Y Y1 n k1 k2 k3
      rw [conf_is hD k2 k3.2.1.2.1, conf_no k3.2.1 i1, Option.bind_some, if_pos bI_f]
  · obtain ⟨i1, i2, i3, -⟩ := id hR
    have nn : ¬ nI ix = -(nI 1) := fun e => by
      have := congrArg Int32.toInt e
      rw [nI_toInt (by omega)] at this
      have h1 : (-(nI 1)).toInt = -1 := by decide
      omega
    obtain ⟨Ya, na, -, -, na2, na3⟩ := hC σ X1 hD (fun _ _ => rfl)
    have eo := open_is (ix := ix) hs.mg na2 na3.2.1.1
    obtain ⟨q, hq, hq1, hq2⟩ := chs_of ix hix
    rw [i3] at hq2
    have hcl : f_X9_settle σ X z a x1 x2 x3 x4 = (if bI (anyB (fun j => decide (X1.1 (a + 18 + 6) j = nI ix)) na) = nI 0 then f_X9_settle_41 a σ X1 z else (if x4 < nI 0 then f_X9_settle_41 a σ X1 z else (if x4 < nI q then bndH (f_X0_prepare σ X1 z (a + 47) (a + 1)) fun u8 σ8 X8 c8 d8 => ldR σ8 7 a 0 fun b9 => ldR σ8 4 b9 9 fun b10 => stA σ8 X8 10 b10 (nI ix) x4 fun X11 => (f_X9_keepAct σ8 X11 a).bind fun X13 => bnd2 (f_X9_freshMerge σ8 X13 a) fun b16 X15 => ldI σ8 X15 1 b16 2 fun v17 => some (v17, σ8, X15, 0, 0) else f_X9_settle_41 a σ X1 z))) := by
      unfold f_X9_settle
      simp only [litM]
      rw [grd_t o0, i1, if_neg nn, e1, bnd2_k, eo, Option.bind_some, hq1]
      simp only [ldR, o0, o1, o4, if_true, Option.bind_some]
    have hn : ∀ {Y1 : Mx} {n : Nat}, MR n (X1.1 (a + 17)) (X1.1 L 0) (X1.1 R 0) X1.1 (a + 18) Y1.1 (a + 108) → n ≤ 299 → n = na := fun k hn => nI_inj (by omega) (by omega) (k.2.1.1.symm.trans na3.2.1.1)
    cases hb : anyB (fun j => decide (X1.1 (a + 18 + 6) j = nI ix)) na with
    | false =>
      refine fin X1 h1 (fun _ _ => rfl) ?_ ?_
      · rw [hcl, hb, if_pos bI_f]
      · intro Y Y1 n k1 k2 k3
        have e := hn k3 k2
        subst e
        rw [conf_is hD k2 k3.2.1.2.1, conf_eq k3.2.1 hR, hb, Option.bind_some, if_pos bI_f]
    | true =>
      have hcf : ∀ {Y1 : Mx} {n : Nat}, n ≤ 299 → MR n (X1.1 (a + 17)) (X1.1 L 0) (X1.1 R 0) X1.1 (a + 18) Y1.1 (a + 108) → ∀ τ, mdOK τ (a + 108) → f_X10_isConflict τ Y1 (a + 108) x1 x2 x3 = some (nI 1) := fun k2 k3 τ ht => by
        have e := hn k3 k2
        subst e
        rw [conf_is ht k2 k3.2.1.2.1, conf_eq k3.2.1 hR, hb, bI_t]
      have hch : f_X10_choicesOf x1 - nI 1 = nI (q - 1) := by
        rw [hq2]
        rcases hq with rfl | rfl <;> decide
      cases hx4 : inR (q - 1) x4 with
      | false =>
        refine fin X1 h1 (fun _ _ => rfl) ?_ ?_
        · rw [hcl, hb, if_neg (by decide)]
          rcases inR_n hx4 with h0 | ⟨h0, h2⟩
          · rw [if_pos h0]
          · rw [if_neg h0, if_neg]
            rw [show q - 1 + 1 = q by omega] at h2
            exact Int32.not_lt.mpr h2
        · intro Y Y1 n k1 k2 k3
          rw [hcf k2 k3 σ hD, Option.bind_some, if_neg (by decide), hch, s_win (by omega), hx4, if_pos bI_f]
      | true =>
        obtain ⟨v, hv, rfl⟩ := inR_ex (by omega) hx4
        obtain ⟨σ1, Xp, c, d, X3, ep, b1, b2, hs1, hXp, e3, hX3, h10, hSn, hY⟩ := choice_both (v := nI v) h1 hz hix (by
          refine ⟨?_, fun h1 h2 => ?_⟩
          · rcases (show v = 0 ∨ v = 1 ∨ v = 2 by omega) with rfl | rfl | rfl
            · exact Or.inr (Or.inl rfl)
            · exact Or.inr (Or.inr (Or.inl rfl))
            · exact Or.inr (Or.inr (Or.inr rfl))
          · obtain ⟨u, u1, u2⟩ := anyB_ex hb
            obtain ⟨w, w1, w2, -⟩ := na3.2.1.2.2 u u1
            have := nI_inj (by omega) (by have := w1.1; omega) ((of_decide_eq_true u2).symm.trans w2)
            have := w1.2
            omega)
        obtain ⟨X5, e5, f10, fA, fq, fM⟩ := run_rel hs1 hSn h10
        have hD1 := hs1.md
        have n0 := hD1.1
        have n3 := hD1.2.2.2.1
        have nq3 : shK σ1 (a + 108 + 3) = 10 ∧ shN σ1 (a + 108 + 3) = 1862 := by
          obtain ⟨m0, m1, m2, m3, m4, m5, m6, m7, m8, m9, m10, m11, m12, m13, m14, m15, m16, m17, mq1, mq2, mq3, mq4, mq5, mq6, mq7, mq8, mq9, mq10, mq11, mq12, mq13, mq14, mq15, mq16, mq17, mn1, mn2, mn3, mn4, mn5, mn6, mn7, mn8, mn9, mn10, mn11, mn12, mn13, mn14, mn15, mn16, mn17⟩ := hD1
          exact ⟨mq3, mn3⟩
        have q0 : shK σ1 a = 7 := hs1.1.1.1
        have q1 : shR σ1 a 0 = some (a + 1) := hs1.1.1.2.1
        obtain ⟨r0, r1, r2, r3⟩ : shK σ1 (a + 1) = 4 ∧ shR σ1 (a + 1) 9 = some (a + 17) ∧ shK σ1 (a + 17) = 10 ∧ shN σ1 (a + 17) = 316 := by
          obtain ⟨s0, s1, s2, s3, s4, s5, s6, s7, s8, s9, s10, s11, s12, s13, s14, s15, s16, s17, s18⟩ := hs1.2.1
          exact ⟨s0, s7, s17.1, s17.2⟩
        have x5 : ∀ q, a + 108 ≤ q → q ≤ a + 126 → X5.1 q = X1.1 q := fun q q1 q2 => by rw [fq q (by omega) (by omega), hX3 q q1 q2]
        obtain ⟨Ym, n, k1, k2, k3, k4⟩ := hC σ1 (sI X5 (a + 108) 0 (nI 0)) hD1 (fun j hj => by rw [sI_na (by omega), x5 _ (by omega) (by omega)])
        have km := k2.q
        obtain ⟨Y2, y1, y2, y3, y4, y5⟩ := hY Ym (fun q hq => by rw [km.2.1 q (by omega), sI_ne (by omega), x5 q (by omega) (by omega)]) (fun j hj => by rw [km.2.2.1 j hj, sI_nk (by omega), x5 _ (by omega) (by omega)]) (fun j hj => by rw [km.2.2.2 j hj, sI_na (by omega), x5 _ (by omega) (by omega)])
        obtain ⟨Y3, hY3⟩ : ∃ Y3, Y3 = sI Y2 (a + 108 + 3) (615 + ix) (nI v) := ⟨_, rfl⟩
        have y3r : ∀ j, j < 931 → Y3.1 (a + 111) j = if j = 615 + ix then nI v else X1.1 (a + 111) j := fun j hj => by
          rw [hY3]
          show (sI Y2 (a + 111) (615 + ix) (nI v)).1 (a + 111) j = _
          by_cases e : j = 615 + ix
          · rw [e, sI_eq, if_pos rfl]
          · rw [sI_nk e, if_neg e, y3 _ (by omega) (by omega)]
            have := km.2.2.2 j hj
            rw [sI_na (by omega), x5 _ (by omega) (by omega)] at this
            exact this
        obtain ⟨Y4, n4, t1, t2, t3, t4⟩ := fM σ1 Y3 hD1 y3r
        have tq := t2.q
        have y4q : ∀ q, (q < a + 108 ∨ q = a + 109 ∨ q = a + 110 ∨ q = a + 112 ∨ a + 122 ≤ q) → Y4.1 q = Y2.1 q := fun q hq => by rw [tq.2.1 q (by omega), hY3, sI_ne (by omega)]
        have y4x : ∀ q, (q < a + 108 ∨ a + 126 < q) → Y4.1 q = X5.1 q := fun q hq => by rw [y4q q (by omega), y3 q (by omega) (by omega), km.2.1 q (by omega), sI_ne (by omega)]
        have y4m : ∀ j, (j = 2 ∨ j = 4 ∨ j = 19 ∨ j = 32 ∨ j = 35 ∨ j = 36 ∨ j = 37) → Y4.1 (a + 108) j = Y2.1 (a + 108) j := fun j hj => by rw [tq.2.2.1 j hj, hY3, sI_na (by omega)]
        have y4r : ∀ j, j < 931 → Y4.1 (a + 111) j = if j = 615 + ix then nI v else X1.1 (a + 111) j := fun j hj => (tq.2.2.2 j hj).trans (y3r j hj)
        have lr := hs1.lr
        refine ⟨nI n4, σ1, X5, c, d, Y4, L, R, ?_, b1, b2, ?_, ?_⟩
        · rw [hcl, hb, if_neg (by decide), if_neg (by rw [n_lt (by omega) (by omega)]; omega), if_pos (by rw [n_lt (by omega) (by omega)]; omega), ep, bndH_s]
          simp only [ldR, q0, q1, r0, r1, if_true, Option.bind_some]
          rw [stA_t r2 (by omega) (by omega), e3, Option.bind_some, e5, bnd2_k, ldI_t hs1.mg.1, t4.2.1.1, adc_some, Nat.zero_add, Nat.zero_add]
        · unfold f_X10_settle
          simp only [litM]
          rw [grd_t n0, stI_t n0, k1, Option.bind_some, hcf k3 k4 σ1 hD1, Option.bind_some, if_neg (by decide), hch, s_win (by omega), hx4, if_neg (by decide), y1, Option.bind_some]
          simp only [ldR, n0, n3, if_true, Option.bind_some]
          rw [i2, nI_add, stA_t nq3.1 (by rw [nq3.2]; omega) (by rw [nq3.2]; omega), ← hY3, t1, Option.bind_some, ldI_t n0, t4.2.1.2.1]
        · refine y5 Y4 (fun q hq => ?_) (fun j hj => ?_) (fun q hq => y4q q (by omega)) y4m y4r (Or.inr ⟨?_, fun τ Y ht hYr => ?_⟩)
          · rw [y4x q (by omega), fq q (by omega) (by omega)]
          · rw [y4x a (by omega), fA j hj]
          · rw [y4x a (by omega)]; exact f10
          · obtain ⟨Y1, n, u1, u2, u3, u4⟩ := fM τ Y ht (fun j hj => by rw [hYr j hj, y4r j hj])
            refine ⟨Y1, n, u1, u2, u3, ?_⟩
            have z : ∀ q, q < a + 108 → Y4.1 q = X5.1 q := fun q hq => y4x q (by omega)
            have w : ∀ q, a + 1 ≤ q → q ≤ a + 17 → Y4.1 q = X3.1 q := fun q h1 h2 => by rw [z q (by omega), fq q (by omega) (by omega)]
            rw [w (a + 17) (by omega) (by omega), w L (by omega) (by omega), w R (by omega) (by omega)]
            unfold MR at u4 ⊢
            rw [z (a + 18) (by omega), z (a + 18 + 1) (by omega), z (a + 18 + 2) (by omega), z (a + 18 + 3) (by omega), z (a + 18 + 4) (by omega), z (a + 18 + 5) (by omega), z (a + 18 + 6) (by omega), z (a + 18 + 7) (by omega), z (a + 18 + 8) (by omega), z (a + 18 + 9) (by omega)]
            exact u4
