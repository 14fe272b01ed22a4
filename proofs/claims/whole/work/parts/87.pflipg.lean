/-! ===== flip ===== -/
theorem IV.kept2 {σ σ' : Sh} {X Z : Mx} {a L R L' R' : Nat} (h : IV σ X a L R) (hs' : IVs σ' a L' R') (hp : ∀ i s, shR σ (a + 102) i = some s → shR σ' (a + 102) i = some s) (hq : ∀ q, (a + 28 ≤ q ∧ q ≤ a + 29) ∨ (a + 49 ≤ q ∧ q ≤ a + 52) ∨ (a + 84 ≤ q ∧ q ≤ a + 107) ∨ q = a + 109 ∨ q = a + 110 ∨ (a + 122 ≤ q ∧ q ≤ a + 125) ∨ a + 126 < q → Z.1 q = X.1 q) (h9 : Z.1 a 9 = X.1 a 9) (h11 : Z.1 a 11 = X.1 a 11) (hm : ∀ j, j = 2 ∨ j = 4 ∨ j = 32 ∨ j = 35 ∨ j = 36 ∨ j = 37 → Z.1 (a + 108) j = X.1 (a + 108) j) (hS : StR Z.1 (a + 1) L' R' (Z.1 (a + 111)) 0) (hA : ActsR σ' Z.1 (a + 47) (Z.1 (a + 108) 19) (a + 112)) (h10 : Z.1 a 10 = nI 0) (h81 : ∀ q, q < 7 → Z.1 (a + 81) q = nI 0) : IV σ' Z a L' R' := by
  obtain ⟨hs, ⟨c1, c2, c3, c4, ⟨c5, c6⟩, ⟨f, c7, c8⟩, c9, c10⟩, -, -⟩ := h
  refine ⟨hs', ⟨hS, c2.fr (by rw [hq _ (by omega)]) (hm 2 (by omega)) (hq _ (by omega)) (hq _ (by omega)), hA, c4.fr (hq _ (by omega)) (hq _ (by omega)) (hq _ (by omega)) (hq _ (by omega)) (hm 32 (by omega)) (hq _ (by omega)), ⟨by rw [h9, hm 35 (by omega)]; exact c5, ?_⟩, ⟨f, c7, by rw [hq _ (by omega)]; exact c8⟩, fun i hi => by rw [hq (a + 107) (by omega), hq (a + 110) (by omega)]; exact c9 i hi, by rw [h11, hm 4 (by omega)]; exact c10⟩, Or.inl h10, fun q hq => Or.inl (h81 q (by omega))⟩
  rw [h9]
  refine c6.imp_right (fun ⟨d1, d2, d3, d4⟩ => ⟨d1, ?_, ?_, ?_⟩)
  · rw [hq (a + 123) (by omega)]
    exact d2.fr (Or.inl ⟨rfl, rfl⟩) (fun q h1 h2 => hq q (by omega)) (fun _ _ => rfl)
  · exact (d3.fr (X1 := Z.1) (Or.inr rfl) hs.2.2.1 (by rw [hq _ (by omega)]) (by rw [hq _ (by omega)]) (hm 36 (by omega)) (hq _ (by omega)) (fun q h => hq q (by omega))).grow hp rfl rfl (fun _ _ _ _ _ _ _ _ _ _ _ _ _ => rfl)
  · exact d4.fr (hq _ (by omega)) (hq _ (by omega)) (hq _ (by omega)) (hq _ (by omega)) (hm 37 (by omega)) (hq _ (by omega))
theorem a_flip {σ : Sh} {X : Mx} {a L R z : Nat} (h : IV σ X a L R) (hz : ∀ q ∈ shL σ, q < z) : ∃ σ1 X1 c d X3, f_X9_flip σ X z a = some ((), σ1, X1, c, d) ∧ c + 17 * pot σ1 a ≤ 17 * pot σ a ∧ d + 947 * pot σ1 a ≤ 947 * pot σ a ∧ f_X10_flip σ1 X1 (a + 108) = some X3 ∧ IV σ1 X3 a R L := by
  obtain ⟨σ0, Xp, c, d, ep, hI, ⟨k, f, s, hk, hf, p2, p1, pr, pS⟩, b1, b2, hXp⟩ := prepare h hz
  obtain ⟨hs0, hc, -, -⟩ := id hI
  have lr := hs0.2.1.lr
  obtain ⟨X2, e2, st2, x2f, ht, hx, h3, h4, h5, hch⟩ := c_sides (X := Xp) (z := z + c) hs0.2.1 hc.1.1.2.2.1 hc.1.2.1.2.2.1
  obtain ⟨hs, hpot⟩ := hs0.flip st2
  obtain ⟨σ1, hσ⟩ : ∃ σ1, σ1 = sR (sR σ0 (a + 1) 1 (some R)) (a + 1) 2 (some L) := ⟨_, rfl⟩
  rw [← hσ] at e2 hs hpot
  have rf : ∀ q, q ≠ a + 1 → ∀ j, shR σ1 q j = shR σ0 q j := fun q hq j => by rw [hσ, shR_s, if_neg (by omega), shR_s, if_neg (by omega)]
  have hD := hs.md
  have m0 := hD.1
  have hX2 : ∀ q, (q < a + 1 ∨ a + 17 < q) → X2.1 q = Xp.1 q := fun q hq => x2f.2 q (by omega)
  obtain ⟨X3, e3, w1, w2, w3, w4, w5, w6⟩ := keepAct (X := X2) hs hk hf (by rw [hX2 _ (by omega)]; exact p2) (by rw [hX2 _ (by omega)]; exact p1)
  have hX3 : ∀ q, a + 108 ≤ q → X3.1 q = Xp.1 q := fun q q1 => by rw [w1 q (by omega) (by omega) (by omega), hX2 q (by omega)]
  obtain ⟨k', f', j1, j2, j3, j4, j5, j6⟩ := id hc.2.2.1
  have hk' : k' = k := nI_inj (by omega) (by omega) (j3.symm.trans p2)
  obtain ⟨Y1, u1, u2, u3, u4, u5, u6, u7⟩ := m_keeps (Y := sI X3 (a + 108) 0 (nI 0)) hD hk (by rw [sI_nk (by omega), hX3 _ (by omega), j4, hk'])
  obtain ⟨Y2, hY2⟩ : ∃ Y2, Y2 = wF Y1 (a + 108 + 3) (fun j => if 931 ≤ j ∧ j < 931 + 931 then Y1.1 (a + 108 + 3) (0 + (j - 931)) else Y1.1 (a + 108 + 3) j) := ⟨_, rfl⟩
  have y1r : Y1.1 (a + 108 + 3) = Xp.1 (a + 111) := by rw [u3 _ (by omega) (by omega), sI_ne (by omega)]; exact hX3 _ (by omega)
  have y2a : ∀ j, j < 931 → Y2.1 (a + 108 + 3) j = Xp.1 (a + 111) j := fun j hj => by rw [hY2, wF_at, if_neg (by omega), y1r]
  have y2b : ∀ j, j < 931 → Y2.1 (a + 108 + 3) (931 + j) = Xp.1 (a + 111) j := fun j hj => by rw [hY2, wF_at, if_pos (by omega), Nat.zero_add, Nat.add_sub_cancel_left, y1r]
  have y2q : ∀ q, q ≠ a + 111 → Y2.1 q = Y1.1 q := fun q hq => by rw [hY2, wF_fn (by omega)]
  obtain ⟨Y3, v1, g1, g2, g3, g4, g5, g6⟩ := m_flT (Y := Y2) (u := 0) (v := 1) hD (by omega) (by omega)
  obtain ⟨Y4, v2, i1, i2, i3, i4, i5, i6⟩ := m_flT (Y := Y3) (u := 1) (v := 0) hD (by omega) (by omega)
  have y4b : ∀ j, 400 ≤ j → Y4.1 (a + 108 + 3) j = Y2.1 (a + 108 + 3) j := fun j hj => by rw [i3 j (by omega), g3 j (by omega)]
  obtain ⟨Y5, hY5⟩ : ∃ Y5, Y5 = sI (sI Y4 (a + 108 + 3) 613 (Y4.1 (a + 108 + 3) 1545)) (a + 108 + 3) 614 (Y4.1 (a + 108 + 3) 1544) := ⟨_, rfl⟩
  have y5 : ∀ j, j ≠ 613 → j ≠ 614 → Y5.1 (a + 108 + 3) j = Y4.1 (a + 108 + 3) j := fun j h1 h2 => by rw [hY5, sI_nk h2, sI_nk h1]
  obtain ⟨Z, v3, z1, z2, z3, z4⟩ := m_f59 (Y := Y5) hD (fun j hj => by
    rw [y5 _ (by omega) (by omega), y5 _ (by omega) (by omega), y4b _ (by omega), y4b _ (by omega), show 1546 + j = 931 + (615 + j) by omega, y2b _ (by omega), y2a _ (by omega)])
  have zq : ∀ q, q ≠ a + 111 → Z.1 q = Y1.1 q := fun q hq => by rw [z2 q (by omega), hY5, sI_ne (by omega), sI_ne (by omega), i2 q (by omega), g2 q (by omega), y2q q hq]
  have zx : ∀ q, q ≠ a + 108 → q ≠ a + 111 → q ≠ a + 112 → Z.1 q = X3.1 q := fun q q1 q2 q3 => by rw [zq q q2, u3 q (by omega) (by omega), sI_ne q1]
  have zp : ∀ q, q ≠ a + 108 → q ≠ a + 111 → q ≠ a + 112 → q ≠ a → q ≠ a + 81 → q ≠ a + 47 → (q < a + 1 ∨ a + 17 < q) → Z.1 q = Xp.1 q := fun q q1 q2 q3 q4 q5 q6 q7 => by rw [zx q q1 q2 q3, w1 q q4 q5 q6, hX2 q q7]
  have zm : ∀ j, j ≠ 0 → j ≠ 19 → Z.1 (a + 108) j = Xp.1 (a + 108) j := fun j h0 h1 => by rw [zq _ (by omega), u4 j h1, sI_nk h0, hX3 _ (by omega)]
  have za : Z.1 a = X3.1 a := zx a (by omega) (by omega) (by omega)
  have z5 : ∀ j, j < 615 → j ≠ 613 → j ≠ 614 → Z.1 (a + 111) j = Y4.1 (a + 108 + 3) j := fun j h1 h2 h3 => by
    refine (z3 j (by omega)).trans ?_
    exact y5 j h2 h3
  refine ⟨σ1, X3, c, d, Z, ?_, by rw [hpot]; exact b1, by rw [hpot]; exact b2, ?_, ?_⟩
  · have o0 : shK σ a = 7 := h.1.1.1.1
    have o1 : shR σ a 0 = some (a + 1) := h.1.1.1.2.1
    have o4 : shR σ a 3 = some (a + 47) := h.1.1.1.2.2.2.2.1
    unfold f_X9_flip
    rw [grd_t o0]
    simp only [ldR, o0, o4, o1, if_true, Option.bind_some]
    rw [ep, bndH_s]
    simp only [show shK σ0 a = 7 from hs0.1.1.1, show shR σ0 a 0 = some (a + 1) from hs0.1.1.2.1, if_true, Option.bind_some]
    rw [e2, bndH_s, e3, Option.bind_some, adc_some, adc_some]
    simp only [Nat.zero_add]
  · have nq3 : shK σ1 (a + 108 + 3) = 10 ∧ shN σ1 (a + 108 + 3) = 1862 ∧ shR σ1 (a + 108) 17 = some (a + 108 + 3) := by
      obtain ⟨m0, m1, m2, m3, m4, m5, m6, m7, m8, m9, m10, m11, m12, m13, m14, m15, m16, m17, mq1, mq2, mq3, mq4, mq5, mq6, mq7, mq8, mq9, mq10, mq11, mq12, mq13, mq14, mq15, mq16, mq17, mn1, mn2, mn3, mn4, mn5, mn6, mn7, mn8, mn9, mn10, mn11, mn12, mn13, mn14, mn15, mn16, mn17⟩ := hD
      exact ⟨mq3, mn3, m3⟩
    unfold f_X10_flip
    simp only [litM]
    rw [grd_t m0, stI_t m0, u1, Option.bind_some, s10_tries hD, Option.bind_some, ← hY2, v1, Option.bind_some, v2, Option.bind_some]
    simp only [ldR, m0, nq3.2.2, if_true, Option.bind_some]
    rw [ldA_t nq3.1 (by rw [nq3.2.1]; omega) (by rw [nq3.2.1]; omega), stA_t nq3.1 (by rw [nq3.2.1]; omega) (by rw [nq3.2.1]; omega), ldA_t nq3.1 (by rw [nq3.2.1]; omega) (by rw [nq3.2.1]; omega), stA_t nq3.1 (by rw [nq3.2.1]; omega) (by rw [nq3.2.1]; omega), sI_nk (show 1544 ≠ 613 by omega), ← hY5]
    exact v3
  · refine hI.kept2 hs (fun i s hr => by rw [rf _ (by omega)]; exact hr) (fun q hq => zp q (by omega) (by omega) (by omega) (by omega) (by omega) (by omega) (by omega)) ?_ ?_ (fun j hj => zm j (by omega) (by omega)) ?_ ?_ ?_ (fun q hq => ?_)
    · rw [za, w2 9 (by omega), hX2 a (by omega)]
    · rw [za, w2 11 (by omega), hX2 a (by omega)]
    · have zs : ∀ q, a + 1 ≤ q → q ≤ a + 17 → Z.1 q = X2.1 q := fun q q1 q2 => by rw [zx q (by omega) (by omega) (by omega), w1 q (by omega) (by omega) (by omega)]
      refine hc.1.flip lr (fun t ht' => ?_) (fun q hq => ?_) ?_ ?_ ?_ (fun o o1 ho => ?_) (fun j h1 h2 => ?_) ?_ ?_ ?_
      · have e : ∀ i, i < 4 → Z.1 (t + i) = X2.1 (t + i) := fun i hi => zs _ (by omega) (by omega)
        rw [show Z.1 t = X2.1 t from e 0 (by omega), e 1 (by omega), e 2 (by omega), e 3 (by omega)]
        exact ht t ht'
      · rw [zs q (by omega) (by omega)]; exact hx q hq
      · rw [zs _ (by omega) (by omega)]; exact h3
      · rw [zs _ (by omega) (by omega)]; exact h4
      · rw [zs _ (by omega) (by omega)]; exact h5
      · rcases ho with ⟨rfl, rfl⟩ | ⟨rfl, rfl⟩
        · have y3b : ∀ j, j < 200 → Y3.1 (a + 108 + 3) (931 + 200 * 0 + j) = Xp.1 (a + 111) j := fun j hj => by
            rw [g3 _ (by omega), show 931 + 200 * 0 + j = 931 + j by omega, y2b j (by omega)]
          refine ⟨fun d => ?_, ?_, fun c hc => ⟨?_, ?_, fun k hk => ?_⟩⟩
          · rw [z5 200 (by omega) (by omega) (by omega)]
            refine (i5 d).trans ?_
            rw [show Y3.1 (a + 108 + 3) (931 + 200 * 0) = Xp.1 (a + 111) 0 from y3b 0 (by omega)]
          · rw [z5 _ (by omega) (by omega) (by omega)]
            refine i4.trans ?_
            exact y3b 1 (by omega)
          · have hf := flp_lt hc
            rw [z5 _ (by omega) (by omega) (by omega)]
            refine (i6 c hc).1.trans ?_
            rw [Nat.add_assoc (931 + 200 * 0) 2, y3b _ (by omega)]
          · have hf := flp_lt hc
            rw [z5 _ (by omega) (by omega) (by omega)]
            refine (i6 c hc).2.1.trans ?_
            rw [Nat.add_assoc (931 + 200 * 0) 11, y3b _ (by omega)]
          · have hf := flp_lt hc
            rw [z5 _ (by omega) (by omega) (by omega)]
            refine ((i6 c hc).2.2 k hk).trans ?_
            rw [show 931 + 200 * 0 + 20 + 9 * k + flp c = 931 + 200 * 0 + (20 + 9 * k + flp c) by omega, y3b _ (by omega)]
        · have y2c : ∀ j, j < 200 → Y2.1 (a + 108 + 3) (931 + 200 * 1 + j) = Xp.1 (a + 111) (200 + j) := fun j hj => by
            rw [show 931 + 200 * 1 + j = 931 + (200 + j) by omega, y2b _ (by omega)]
          have z0 : ∀ j, j < 200 → Z.1 (a + 111) j = Y3.1 (a + 108 + 3) j := fun j hj => by rw [z5 j (by omega) (by omega) (by omega), i3 j (by omega)]
          refine ⟨fun d => ?_, ?_, fun c hc => ⟨?_, ?_, fun k hk => ?_⟩⟩
          · rw [z0 0 (by omega)]
            refine (g5 d).trans ?_
            rw [show Y2.1 (a + 108 + 3) (931 + 200 * 1) = Xp.1 (a + 111) 200 from y2c 0 (by omega)]
          · rw [z0 _ (by omega)]
            refine g4.trans ?_
            exact y2c 1 (by omega)
          · have hf := flp_lt hc
            rw [z0 _ (by omega)]
            refine (g6 c hc).1.trans ?_
            rw [Nat.add_assoc (931 + 200 * 1) 2, y2c _ (by omega)]
            exact congrArg (Xp.1 (a + 111)) (by omega)
          · have hf := flp_lt hc
            rw [z0 _ (by omega)]
            refine (g6 c hc).2.1.trans ?_
            rw [Nat.add_assoc (931 + 200 * 1) 11, y2c _ (by omega)]
            exact congrArg (Xp.1 (a + 111)) (by omega)
          · have hf := flp_lt hc
            rw [z0 _ (by omega)]
            refine ((g6 c hc).2.2 k hk).trans ?_
            rw [show 931 + 200 * 1 + 20 + 9 * k + flp c = 931 + 200 * 1 + (20 + 9 * k + flp c) by omega, y2c _ (by omega)]
            exact congrArg (Xp.1 (a + 111)) (by omega)
      · rw [z5 j (by omega) (by omega) (by omega), y4b j h1, y2a j (by omega)]
      · refine (z3 613 (by omega)).trans ?_
        rw [hY5, sI_nk (by omega), sI_eq, y4b _ (by omega), show 1545 = 931 + 614 from rfl, y2b _ (by omega)]
      · refine (z3 614 (by omega)).trans ?_
        rw [hY5, sI_eq, y4b _ (by omega), show 1544 = 931 + 613 from rfl, y2b _ (by omega)]
      · refine ch_flip (C := Xp.1 (a + 1 + 16)) (W := fun j => Xp.1 (a + 111) (615 + j)) (W1 := fun j => Z.1 (a + 111) (615 + j)) (fun i hi => hI.ch hi) (fun j hj => ?_) (fun j hj => ?_)
        · rw [zs _ (by omega) (by omega)]; exact hch j hj
        · refine (z4 j hj).trans ?_
          have := (cf_eq j hj).2.1
          rw [y5 _ (by omega) (by omega), y4b _ (by omega), y2a _ (by omega)]
    · refine acts_kept (σ := σ1) (X := Xp.1) (k := k) (f := f) (s := s) ?_ hk hf p2 p1 (by rw [rf _ (by omega)]; exact pr) pS ?_ ?_ ?_ (fun j hj => ?_) (fun j hj => ?_) (fun q hq => zp q (by omega) (by omega) (by omega) (by omega) (by omega) (by omega) (by omega)) hs.2.2.1
      · exact hc.2.2.1.grow (fun i s hr => by rw [rf _ (by omega)]; exact hr) rfl rfl (fun _ _ _ _ _ _ _ _ _ _ _ _ _ => rfl)
      · rw [zx _ (by omega) (by omega) (by omega)]; exact w5
      · rw [zx _ (by omega) (by omega) (by omega)]; exact w6
      · rw [zq _ (by omega)]; exact u5
      · rw [zq _ (by omega)]
        refine (u6 j hj).trans ?_
        rw [sI_na (by omega), hX3 _ (by omega)]
      · rw [zq _ (by omega)]
        refine (u7 j hj).trans ?_
        rw [sI_na (by omega), hX3 _ (by omega)]
    · rw [za]; exact w3
    · rw [zx _ (by omega) (by omega) (by omega)]; exact w4 q hq
