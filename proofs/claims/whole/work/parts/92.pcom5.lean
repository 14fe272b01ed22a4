/-! ===== commit ===== -/
theorem ifc {ρ : Type} {b c : Prop} [Decidable b] [Decidable c] {x y u v : ρ} (h : b = c) (h2 : x = u) (h3 : y = v) : (if b then x else y) = (if c then u else v) := by
  subst h2 h3
  by_cases hb : b
  · rw [if_pos hb, if_pos (h ▸ hb)]
  · rw [if_neg hb, if_neg (fun q => hb (h ▸ q))]
theorem CmC.fr {X X1 : Nat → Nat → Int32} {b C : Nat} {h K : Int32} {n t u : Nat → Int32} (H : CmC X b h K n t u C) (e : ∀ q, b ≤ q → q ≤ b + 3 → X1 q = X q) : CmC X1 b h K n t u C := by
  unfold CmC at H ⊢
  rw [e b (by omega) (by omega), e (b + 1) (by omega) (by omega), e (b + 2) (by omega) (by omega), e (b + 3) (by omega) (by omega)]
  exact H
theorem c_become {σ τ : Sh} {X : Mx} {s L R g m d : Nat} {W : Nat → Int32} (hs : stOK σ s L R) (hg : tabOK σ g) (hm : mdOK τ m) (hsg : s + 16 < g) (lo : low 9 (X.1 g 0)) (d4 : d ≤ 4) (x5 : X.1 s 5 = nI d) (y6 : W 600 = nI d) (hD : DmR X.1 s d W) :
    ∃ X2 X5, f_X5_keepDemandsOf σ X s g = some X2 ∧ f_X5_becomeMerged σ X s g = some X5 ∧ X5.2 = X.2 ∧ (∀ q, (q < s ∨ s + 16 < q) → X5.1 q = X.1 q) ∧ X5.1 s 5 = X2.1 s 5 ∧ (∀ q, s + 13 ≤ q → q ≤ s + 15 → X5.1 q = X2.1 q) ∧ X5.1 s 3 = nI 0 ∧ X5.1 s 4 = nI 0 ∧ (∀ j, j < 316 → X5.1 (s + 16) j = -(nI 1)) ∧ CmC X5.1 (s + 1) (X.1 g 0) (X.1 g 1) (X.1 (g + 1)) (X.1 (g + 2)) (X.1 (g + 3)) 9 ∧ (∀ t, t = L ∨ t = R → X5.1 t 0 = X5.1 (s + 1) 0 ∧ X5.1 t 1 = X5.1 (s + 1) 1 ∧ (∀ j, j < 9 → X5.1 (t + 1) j = X5.1 (s + 1 + 1) j) ∧ (∀ j, j < 9 → X5.1 (t + 2) j = X5.1 (s + 1 + 2) j) ∧ (∀ j, j < 180 → X5.1 (t + 3) j = X5.1 (s + 1 + 3) j)) := by
  have lr := hs.lr
  obtain ⟨Y0, hY0⟩ : ∃ Y0, Y0 = wF (wF X (m + 3) W) (m + 12) (fun c => if bt (X.1 g 0) c = true then nI (cnt c (X.1 g 0)) else -(nI 1)) := ⟨_, rfl⟩
  have y3 : Y0.1 (m + 3) = W := by rw [hY0, wF_fn (by omega), wF_af]
  obtain ⟨X2, Y1, p, e1, -, -, e2, -, e3, e4, -, -, -, -, -⟩ := dem_both (Y := Y0) hs hg hm hsg rfl lo (fun c _ => by rw [hY0, wF_at]) d4 x5 (by rw [y3]; exact y6) (by rw [y3]; exact hD)
  have hb : tabOK σ (s + 1) := hs.2.2.2.2.2.2.2.2.1
  have x2 : ∀ q, s < q → (q < s + 13 ∨ s + 15 < q) → X2.1 q = X.1 q := fun q h1 h2 => e3 q (by omega) (by omega) (by omega) (by omega)
  obtain ⟨A, hA⟩ : ∃ A, A = wF (sI (sI X2 (s + 1) 0 (nI 0)) (s + 1) 1 (nI 0)) (s + 1 + 3) (fun j => if j < 180 then nI 9999 else X2.1 (s + 1 + 3) j) := ⟨_, rfl⟩
  obtain ⟨B, hB⟩ : ∃ B, B = sI A (s + 1) 1 (X.1 g 1) := ⟨_, rfl⟩
  have aq : ∀ q, q ≠ s + 1 → q ≠ s + 4 → A.1 q = X2.1 q := fun q h1 h2 => by rw [hA, wF_fn (by omega), sI_ne h1, sI_ne h1]
  have bq : ∀ q, q ≠ s + 1 → q ≠ s + 4 → B.1 q = X2.1 q := fun q h1 h2 => by rw [hB, sI_ne h1, aq q h1 h2]
  have bg : ∀ i, i < 4 → B.1 (g + i) = X.1 (g + i) := fun i hi => by rw [bq _ (by omega) (by omega), x2 _ (by omega) (by omega)]
  have ag : A.1 g = X.1 g := by rw [aq _ (by omega) (by omega), x2 _ (by omega) (by omega)]
  obtain ⟨X3, f1, f2, f3, f4⟩ := c_bm27 (X := B) hs hg hsg (by rw [hB, sI_nk (by omega), hA, wF_na (by omega), sI_nk (by omega), sI_eq]) (fun j hj => by
    rw [hB, sI_na (by omega), hA]
    show (wF _ (s + 4) _).1 (s + 4) j = _
    rw [wF_at, if_pos hj])
  rw [show B.1 g = X.1 g from bg 0 (by omega), bg 1 (by omega), bg 2 (by omega), bg 3 (by omega), show B.1 (s + 1) 1 = X.1 g 1 by rw [hB, sI_eq]] at f4
  obtain ⟨X5, g1, g2, g3, g4, g5, g6, g7, g8⟩ := c_start (X := X3) hs
  have x5q : ∀ q, q ≠ s → (q < s + 1 ∨ s + 12 < q) → q ≠ s + 16 → X5.1 q = X2.1 q := fun q h1 h2 h3 => by
    rw [g3 q h1 (by omega) h3, f3 q (by omega), bq q (by omega) (by omega)]
  have e : ∀ i, i < 4 → X5.1 (s + 1 + i) = X3.1 (s + 1 + i) := fun i hi => g3 _ (by omega) (by omega) (by omega)
  refine ⟨X2, X5, e1, ?_, ?_, fun q hq => ?_, ?_, fun q h1 h2 => x5q q (by omega) (by omega) (by omega), g5, g6, g8, f4.fr (fun q h1 h2 => g3 q (by omega) (by omega) (by omega)), fun t ht => ?_⟩
  · unfold f_X5_becomeMerged
    simp only [litM]
    rw [grd_t hs.1, e1, Option.bind_some]
    simp only [ldR, hs.1, hs.2.1, if_true, Option.bind_some]
    rw [s_clear6 hb, Option.bind_some, ← hA, ldI_t hg.1, stI_t hb.1, ag, ← hB, f1, g1]
  · rw [g2, f2, hB, sI_2, hA, wF_2, sI_2, sI_2, e2]
  · rw [x5q q (by omega) (by omega) (by omega), e3 q (by omega) (by omega) (by omega) (by omega)]
  · rw [g4 5 (by omega) (by omega), f3 s (by omega), bq s (by omega) (by omega)]
  · rw [show X5.1 (s + 1) = X3.1 (s + 1) from e 0 (by omega), e 1 (by omega), e 2 (by omega), e 3 (by omega)]
    exact g7 t ht
theorem a_commit {σ : Sh} {X : Mx} {a L R z : Nat} (h : IV σ X a L R) (hz : ∀ q ∈ shL σ, q < z) : ActI σ a (f_X9_commit σ X z a) (fun τ Y => f_X10_commit τ Y (a + 108)) := by
  have hs := h.1
  have hD := hs.md
  have m0 := hD.1
  have o0 : shK σ a = 7 := h.1.1.1.1
  have o1 : shR σ a 0 = some (a + 1) := h.1.1.1.2.1
  have o4 : shR σ a 3 = some (a + 47) := h.1.1.1.2.2.2.2.1
  obtain ⟨X1, e1, h1, hC, hF, hF2⟩ := fresh h
  obtain ⟨Ya, n, -, -, n9, nR⟩ := hC σ X1 hD (fun _ _ => rfl)
  have hg := hs.mg
  have g0 : shK σ (a + 18) = 1 := hg.1
  have g1 : shR σ (a + 18) 0 = some (a + 18 + 1) := hg.2.1
  have gT : tabOK σ (a + 18 + 1) := hg.2.2.2.2.2.2.2.1
  have x2n : X1.1 (a + 18) 2 = nI n := nR.2.1.1
  have loH : low 9 (X1.1 (a + 18 + 1) 0) := by rw [nR.1.1]; exact nR.1.2.2.1
  have loK : low 20 (X1.1 (a + 18 + 1) 1) := by rw [nR.1.2.1]; exact nR.1.2.2.2.1
  have cK := cnt_le 20 (X1.1 (a + 18 + 1) 1)
  have cH := cnt_le 20 (X1.1 (a + 18 + 1) 0)
  have hcl : f_X9_commit σ X z a = (if 0 < n then f_X9_commit_43 a σ X1 z else (if 12 < cnt 20 (X1.1 (a + 18 + 1) 1) then f_X9_commit_43 a σ X1 z else (if cnt 20 (X1.1 (a + 18 + 1) 0) ≤ 5 then bndH (f_X0_prepare σ X1 z (a + 47) (a + 1)) fun u11 σ11 X11 c11 d11 => ldR σ11 7 a 0 fun b12 => ldR σ11 1 (a + 18) 0 fun b13 => (f_X5_becomeMerged σ11 X11 b12 b13).bind fun X15 => (f_X9_keepAct σ11 X15 a).bind fun X17 => some (nI (cnt 20 (X1.1 (a + 18 + 1) 1)), σ11, X17, 0, 0) else f_X9_commit_43 a σ X1 z))) := by
    unfold f_X9_commit
    simp only [litM]
    rw [grd_t o0, e1, bnd2_k]
    simp only [ldR, g0, g1, o0, o1, o4, if_true, Option.bind_some]
    rw [ldI_t gT.1, ldI_t g0, ldI_t gT.1, x2n, s_bitCount loK, s_bitCount (low_mono loH (by omega))]
    refine ifc (by rw [n_lt (by omega) (by omega)]) rfl (ifc (by rw [n_lt (by omega) (by omega)]) rfl (ifc (by rw [n_le (by omega) (by omega)]) rfl rfl))
  -- the reference, from a memory whose row is the old one
  have hmd : ∀ (τ : Sh) (Y : Mx), mdOK τ (a + 108) → (∀ j, j < 931 → Y.1 (a + 111) j = X1.1 (a + 111) j) → ∃ Y1, f_X10_merges τ (sI Y (a + 108) 0 (nI 0)) (a + 108) (nI 0) = some Y1 ∧ FrY (sI Y (a + 108) 0 (nI 0)) Y1 (a + 108) ∧ MR n (X1.1 (a + 17)) (X1.1 L 0) (X1.1 R 0) X1.1 (a + 18) Y1.1 (a + 108) ∧ f_X10_commit τ Y (a + 108) = (if 0 < n then f_X10_commit_40 τ (a + 108) Y1 else (if 5 < cnt 20 (X1.1 (a + 18 + 1) 0) then f_X10_commit_40 τ (a + 108) Y1 else (if cnt 20 (X1.1 (a + 18 + 1) 1) ≤ 12 then (f_X10_keeps τ Y1 (a + 108)).bind fun X12 => (f_X10_commitsTable τ X12 (a + 108)).bind fun X14 => (f_X10_commitsDemands τ X14 (a + 108)).bind fun X16 => (f_X10_sidesBegin τ X16 (a + 108) (nI 0)).bind fun X18 => ldR τ 8 (a + 108) 17 fun b19 => stA τ X18 10 b19 (nI 613) (nI 0) fun X20 => ldR τ 8 (a + 108) 17 fun b21 => stA τ X20 10 b21 (nI 614) (nI 0) fun X22 => f_X10_commit_83 τ (a + 108) FU X22 (nI 0) else f_X10_commit_40 τ (a + 108) Y1))) := by
    intro τ Y ht hY
    obtain ⟨Y1, n', k1, k2, k3, k4⟩ := hC τ (sI Y (a + 108) 0 (nI 0)) ht (fun j hj => by rw [sI_na (by omega)]; exact hY j hj)
    have : n' = n := nI_inj (by omega) (by omega) (k4.2.1.1.symm.trans x2n)
    subst this
    refine ⟨Y1, k1, k2, k4, ?_⟩
    have t0 := ht.1
    unfold f_X10_commit
    simp only [litM]
    rw [grd_t t0, stI_t t0, k1, Option.bind_some, ldI_t t0, k4.2.1.2.1]
    refine ifc (by rw [n_lt (by omega) (by omega)]) rfl ?_
    rw [ldI_t t0, s_bits, Option.bind_some, ← k4.1.1]
    refine ifc (by rw [n_lt (by omega) (by omega)]) rfl ?_
    rw [ldI_t t0, s_bits, Option.bind_some, ← k4.1.2.1]
    exact ifc (by rw [n_le (by omega) (by omega)]) rfl rfl
  by_cases ok : ¬ 0 < n ∧ ¬ 12 < cnt 20 (X1.1 (a + 18 + 1) 1) ∧ cnt 20 (X1.1 (a + 18 + 1) 0) ≤ 5
  · obtain ⟨ok1, ok2, ok3⟩ := ok
    rw [if_neg ok1, if_neg ok2, if_pos ok3] at hcl
    obtain ⟨σ0, Xp, c, d, ep, hI, ⟨k, f, s, hk, hf, p2, p1, pr, pS⟩, b1, b2, hXp⟩ := prepare h1 hz
    obtain ⟨hs0, hc, -, -⟩ := id hI
    have lr := hs0.2.1.lr
    have hD0 := hs0.md
    have gT0 : tabOK σ0 (a + 18 + 1) := hs0.mg.2.2.2.2.2.2.2.1
    obtain ⟨dn, d4, dx, dw, dd⟩ := hc.1.2.2.2.2.2.2.1
    obtain ⟨X2, X5, v1, v2, v3, v4, v5, v6, v7, v8, v9, v10, v11⟩ := c_become (X := Xp) (W := Xp.1 (a + 111)) hs0.2.1 gT0 hD0 (by omega) (by rw [hXp _ (by omega)]; exact loH) d4 dx dw dd
    obtain ⟨X6, e6, w1, w2, w3, w4, w5, w6⟩ := keepAct (X := X5) hs0 hk hf (by rw [v4 _ (by omega)]; exact p2) (by rw [v4 _ (by omega)]; exact p1)
    have x6 : ∀ q, a + 108 ≤ q → X6.1 q = Xp.1 q := fun q q1 => by rw [w1 q (by omega) (by omega) (by omega), v4 q (by omega)]
    obtain ⟨Y1, k1, k2, k4, hmd1⟩ := hmd σ0 X6 hD0 (fun j hj => by rw [x6 _ (by omega), hXp _ (by omega)])
    rw [if_neg ok1, if_neg (by omega), if_pos (by omega)] at hmd1
    obtain ⟨k', f', j1, j2, j3, j4, j5, j6⟩ := id hc.2.2.1
    have hk' : k' = k := nI_inj (by omega) (by omega) (j3.symm.trans p2)
    have km := k2.q
    obtain ⟨Y2, u1, u2, u3, u4, u5, u6, u7⟩ := m_keeps (Y := Y1) hD0 hk (by rw [km.2.2.1 19 (by omega), sI_nk (by omega), x6 _ (by omega), j4, hk'])
    obtain ⟨Y3, q1, q2, q3, q4, q5⟩ := m_ct (Y := Y2) hD0
    have y1r : ∀ j, j < 931 → Y1.1 (a + 108 + 3) j = Xp.1 (a + 111) j := fun j hj => by
      refine (km.2.2.2 j hj).trans ?_
      rw [sI_na (by omega)]
      exact congrFun (x6 _ (by omega)) j
    have y3r : ∀ j, j < 931 → 600 ≤ j → Y3.1 (a + 108 + 3) j = Xp.1 (a + 111) j := fun j hj h6 => by
      rw [q4 j (Or.inr h6), u3 _ (by omega) (by omega)]; exact y1r j hj
    have eH : Y2.1 (a + 108) 20 = Xp.1 (a + 18 + 1) 0 := by rw [u4 20 (by omega), ← k4.1.1, hXp _ (by omega)]
    have eK : Y2.1 (a + 108) 21 = Xp.1 (a + 18 + 1) 1 := by rw [u4 21 (by omega), ← k4.1.2.1, hXp _ (by omega)]
    rw [eH, eK] at q5
    have dY : DmR Xp.1 (a + 1) dn (Y3.1 (a + 108 + 3)) := fun i hi => by
      obtain ⟨kd, f, q, r1, r2, r3, r4, r5, r6, r7, r8, r9, r10⟩ := dd i hi
      refine ⟨kd, f, q, r1, r2, r3, r4, r5, r6, ?_, ?_, fun e => ?_, r10⟩
      · rw [y3r _ (by omega) (by omega)]; rw [Nat.zero_add] at r7; exact r7
      · rw [y3r _ (by omega) (by omega)]; rw [Nat.zero_add] at r8; exact r8
      · rw [y3r _ (by omega) (by omega)]; have := r9 e; rw [Nat.zero_add] at this; exact this
    obtain ⟨X2', Y4, p, i1, i2, i3, i4, i5, i6, i7, i8, i9, i10, i11, i12⟩ := dem_both (X := Xp) (Y := Y3) hs0.2.1 gT0 hD0 (by omega) rfl (by rw [hXp _ (by omega)]; exact loH) q5.2.2.2 d4 dx (by rw [y3r 600 (by omega) (by omega)]; exact dw) dY
    rw [v1] at i1
    cases i1
    obtain ⟨Y5, r1, r2, r3, r4, r5⟩ := m_sides (Y := Y4) hD0
    obtain ⟨Y6, hY6⟩ : ∃ Y6, Y6 = sI (sI Y5 (a + 108 + 3) 613 (nI 0)) (a + 108 + 3) 614 (nI 0) := ⟨_, rfl⟩
    obtain ⟨Z, z1, z2, z3, z4, z5⟩ := m_c83 (Y := Y6) hD0
    have y6 : ∀ j, j ≠ 613 → j ≠ 614 → Y6.1 (a + 108 + 3) j = Y5.1 (a + 108 + 3) j := fun j h1 h2 => by rw [hY6, sI_nk h2, sI_nk h1]
    have zr : ∀ j, j < 613 → Z.1 (a + 108 + 3) j = Y5.1 (a + 108 + 3) j := fun j hj => by rw [z4 j (by omega), y6 j (by omega) (by omega)]
    have zr4 : ∀ j, 400 ≤ j → j < 613 → Z.1 (a + 108 + 3) j = Y4.1 (a + 108 + 3) j := fun j h1 h2 => by rw [zr j h2, r4 j h1]
    have zr3 : ∀ j, 400 ≤ j → j < 600 → Z.1 (a + 108 + 3) j = Y3.1 (a + 108 + 3) j := fun j h1 h2 => by rw [zr4 j h1 (by omega), i10 j (Or.inl h2)]
    have zq : ∀ q, q ≠ a + 111 → q ≠ a + 120 → Z.1 q = Y2.1 q := fun q h1 h2 => by
      rw [z3 q (by omega), hY6, sI_ne (by omega), sI_ne (by omega), r3 q (by omega), i9 q (by omega), q3 q (by omega) (by omega)]
    have zx : ∀ q, (q < a + 108 ∨ q = a + 109 ∨ q = a + 110 ∨ a + 122 ≤ q) → Z.1 q = X6.1 q := fun q hq => by
      rw [zq q (by omega) (by omega), u3 q (by omega) (by omega), km.2.1 q (by omega), sI_ne (by omega)]
    have zp : ∀ q, (q < a + 108 ∨ q = a + 109 ∨ q = a + 110 ∨ a + 122 ≤ q) → q ≠ a → q ≠ a + 81 → q ≠ a + 47 → (q < a + 1 ∨ a + 17 < q) → Z.1 q = Xp.1 q := fun q h1 h2 h3 h4 h5 => by rw [zx q h1, w1 q h2 h3 h4, v4 q (by omega)]
    have zs : ∀ q, a + 1 ≤ q → q ≤ a + 17 → Z.1 q = X5.1 q := fun q h1 h2 => by rw [zx q (by omega), w1 q (by omega) (by omega) (by omega)]
    have zm : ∀ j, j = 2 ∨ j = 4 ∨ j = 32 ∨ j = 35 ∨ j = 36 ∨ j = 37 → Z.1 (a + 108) j = Xp.1 (a + 108) j := fun j hj => by
      rw [zq _ (by omega) (by omega), u4 j (by omega), km.2.2.1 j (by omega), sI_nk (by omega), x6 _ (by omega)]
    have cK' : cnt 20 (Y6.1 (a + 108 + 3) 401) = cnt 20 (X1.1 (a + 18 + 1) 1) := by
      rw [y6 401 (by omega) (by omega), r4 401 (by omega), i10 401 (by omega), q5.2.1, hXp _ (by omega)]
    refine ⟨nI (cnt 20 (X1.1 (a + 18 + 1) 1)), σ0, X6, c, d, Z, L, R, ?_, b1, b2, ?_, ?_⟩
    · rw [hcl, ep, bndH_s]
      simp only [ldR, show shK σ0 a = 7 from hs0.1.1.1, show shR σ0 a 0 = some (a + 1) from hs0.1.1.2.1, hs0.mg.1, hs0.mg.2.1, if_true, Option.bind_some]
      rw [v2, Option.bind_some, e6, Option.bind_some, adc_some, Nat.zero_add, Nat.zero_add]
    · refine Eq.trans hmd1 ?_
      have n0 := hD0.1
      have n3 := hD0.2.2.2.1
      have nq3 : shK σ0 (a + 108 + 3) = 10 ∧ shN σ0 (a + 108 + 3) = 1862 := by
        obtain ⟨m0, m1, m2, m3, m4, m5, m6, m7, m8, m9, m10, m11, m12, m13, m14, m15, m16, m17, mq1, mq2, mq3, mq4, mq5, mq6, mq7, mq8, mq9, mq10, mq11, mq12, mq13, mq14, mq15, mq16, mq17, mn1, mn2, mn3, mn4, mn5, mn6, mn7, mn8, mn9, mn10, mn11, mn12, mn13, mn14, mn15, mn16, mn17⟩ := hD0
        exact ⟨mq3, mn3⟩
      rw [u1, Option.bind_some, q1, Option.bind_some, i2, Option.bind_some, r1, Option.bind_some]
      simp only [ldR, n0, n3, if_true, Option.bind_some]
      rw [stA_t nq3.1 (by rw [nq3.2]; omega) (by rw [nq3.2]; omega), stA_t nq3.1 (by rw [nq3.2]; omega) (by rw [nq3.2]; omega), ← hY6, z1, cK']
    · have tR := k4.1
      rw [show X1.1 (a + 18 + 1) = Xp.1 (a + 18 + 1) from (hXp _ (by omega)).symm, show X1.1 (a + 18 + 2) = Xp.1 (a + 18 + 1 + 1) from (hXp _ (by omega)).symm, show X1.1 (a + 18 + 3) = Xp.1 (a + 18 + 1 + 2) from (hXp _ (by omega)).symm, show X1.1 (a + 18 + 4) = Xp.1 (a + 18 + 1 + 3) from (hXp _ (by omega)).symm] at tR
      have eH1 : Y1.1 (a + 108) 20 = Xp.1 (a + 18 + 1) 0 := by rw [← eH, u4 20 (by omega)]
      have eK1 : Y1.1 (a + 108) 21 = Xp.1 (a + 18 + 1) 1 := by rw [← eK, u4 21 (by omega)]
      rw [eH1, eK1] at tR
      rw [u3 (a + 108 + 5) (by omega) (by omega), u3 (a + 108 + 6) (by omega) (by omega), u3 (a + 108 + 7) (by omega) (by omega)] at q5
      have tB : TabR X5.1 (a + 1 + 1) (Y3.1 (a + 108 + 3)) 400 := tab_commit v10 q5 tR
      have l5 : low 5 (X5.1 (a + 1 + 1) 0) := fun e he => by
        rw [v10.1]
        have := cnt_low (h := Xp.1 (a + 18 + 1) 0) (n := 9) (m := 20) (by rw [hXp _ (by omega)]; exact loH) (by omega)
        rw [← hXp (a + 18 + 1) (by omega)] at ok3
        exact decide_eq_false (by omega)
      have hT : ∀ t o, t = L ∨ t = R → o = 0 ∨ o = 200 → TabR Z.1 t (Z.1 (a + 111)) o := fun t o ht ho => by
        obtain ⟨g1, g2, g3, g4, g5⟩ := v11 t ht
        refine tB.mv (by rw [zs t (by omega) (by omega)]; exact g1) (by rw [zs t (by omega) (by omega)]; exact g2) (fun j hj => by rw [zs _ (by omega) (by omega)]; exact g3 j hj) (fun j hj => by rw [zs _ (by omega) (by omega)]; exact g4 j hj) (fun j hj => by rw [zs _ (by omega) (by omega)]; exact g5 j hj) (fun j hj => ?_)
        have e4 : Y4.1 (a + 108 + 3) (400 + j) = Y3.1 (a + 108 + 3) (400 + j) := i10 _ (by omega)
        rcases ho with rfl | rfl
        · rw [Nat.zero_add]
          exact (zr j (by omega)).trans ((r5 j hj).1.trans e4)
        · exact (zr _ (by omega)).trans ((r5 j hj).2.trans e4)
      refine hI.kept hs0 (fun q hq => zp q (by omega) (by omega) (by omega) (by omega) (by omega)) ?_ ?_ zm ?_ ?_ ?_ (fun q hq => ?_)
      · rw [zx a (by omega), w2 9 (by omega), v4 a (by omega)]
      · rw [zx a (by omega), w2 11 (by omega), v4 a (by omega)]
      · have hL : ∀ t, t = L ∨ t = R → ∀ e, 5 ≤ e → bt (Z.1 t 0) e = false := fun t ht e he => by
          rw [zs t (by omega) (by omega), (v11 t ht).1]; exact l5 e he
        refine ⟨hT L 0 (Or.inl rfl) (Or.inl rfl), hT R 200 (Or.inr rfl) (Or.inr rfl), ?_, ?_, ⟨hL L (Or.inl rfl) 7 (by omega), hL L (Or.inl rfl) 8 (by omega)⟩, ⟨hL R (Or.inr rfl) 5 (by omega), hL R (Or.inr rfl) 6 (by omega)⟩, ⟨p, by omega, ?_, ?_, fun i hi => ?_⟩, ⟨0, by omega, ?_, ?_, fun j _ _ => hL L (Or.inl rfl) _ (by omega)⟩, ⟨0, by omega, ?_, ?_, fun j _ _ => hL R (Or.inr rfl) _ (by omega)⟩, fun i hi => ?_⟩
        · refine tB.fr (fun q h1 h2 => zs q (by omega) (by omega)) (fun j h1 h2 => zr3 j h1 (by omega))
        · rw [zs _ (by omega) (by omega)]; exact l5
        · rw [zs _ (by omega) (by omega), v5]; exact i8
        · exact (zr4 600 (by omega) (by omega)).trans i11
        · obtain ⟨kd, f, q, r1, r2, r3, r4, r5, r6, r7, r8, r9, r10⟩ := i12 i hi
          refine ⟨kd, f, q, r1, r2, r3, by rw [zs _ (by omega) (by omega), v6 _ (by omega) (by omega)]; exact r4, by rw [zs _ (by omega) (by omega), v6 _ (by omega) (by omega)]; exact r5, by rw [zs _ (by omega) (by omega), v6 _ (by omega) (by omega)]; exact r6, ?_, ?_, fun e => ?_, r10⟩
          · rw [Nat.zero_add]; exact (zr4 _ (by omega) (by omega)).trans r7
          · rw [Nat.zero_add]; exact (zr4 _ (by omega) (by omega)).trans r8
          · rw [Nat.zero_add]; exact (zr4 _ (by omega) (by omega)).trans (r9 e)
        · rw [zs _ (by omega) (by omega)]; exact v7
        · refine (z4 613 (by omega)).trans ?_
          rw [hY6, sI_nk (by omega), sI_eq]
        · rw [zs _ (by omega) (by omega)]; exact v8
        · refine (z4 614 (by omega)).trans ?_
          rw [hY6, sI_eq]
        · rw [zs _ (by omega) (by omega), v9 i hi, Nat.zero_add]
          exact ⟨(z5 i hi).symm, Or.inl rfl, fun _ _ => rfl⟩
      · refine acts_kept (X := Xp.1) hc.2.2.1 hk hf p2 p1 pr pS ?_ ?_ ?_ (fun j hj => ?_) (fun j hj => ?_) (fun q hq => zp q (by omega) (by omega) (by omega) (by omega) (by omega)) hs0.2.2.1
        · rw [zx _ (by omega)]; exact w5
        · rw [zx _ (by omega)]; exact w6
        · rw [zq _ (by omega) (by omega)]; exact u5
        · rw [zq _ (by omega) (by omega)]
          refine (u6 j hj).trans ?_
          rw [km.2.1 (a + 108 + 4) (by omega), sI_na (by omega), x6 _ (by omega)]
        · rw [zq _ (by omega) (by omega)]
          refine (u7 j hj).trans ?_
          exact y1r j hj
      · rw [zx a (by omega)]; exact w3
      · rw [zx _ (by omega)]; exact w4 q hq
  · obtain ⟨Y1, k1, k2, k4, hmd1⟩ := hmd σ (sI X1 (a + 107) 1 (X1.1 (a + 107) 1 + nI 1)) hD (fun j hj => by rw [sI_na (by omega)])
    refine ⟨-(nI 1), σ, sI X1 (a + 107) 1 (X1.1 (a + 107) 1 + nI 1), 0, 0, sI Y1 (a + 108 + 2) 1 (Y1.1 (a + 108 + 2) 1 + nI 1), L, R, ?_, by omega, by omega, ?_, ref_both h1 ((FrQ.fld (k := 0) (v := nI 0) (by omega)).trans k2.q)⟩
    · have e43 : f_X9_commit_43 a σ X1 z = some (-(nI 1), σ, sI X1 (a + 107) 1 (X1.1 (a + 107) 1 + nI 1), 0, 0) := by
        unfold f_X9_commit_43
        rw [refuseAct hs, bnd2_k]
      rw [hcl, e43]
      by_cases q1 : 0 < n
      · rw [if_pos q1]
      · by_cases q2 : 12 < cnt 20 (X1.1 (a + 18 + 1) 1)
        · rw [if_neg q1, if_pos q2]
        · rw [if_neg q1, if_neg q2, if_neg (by omega)]
    · have e40 : f_X10_commit_40 σ (a + 108) Y1 = some (-(nI 1), sI Y1 (a + 108 + 2) 1 (Y1.1 (a + 108 + 2) 1 + nI 1)) := by
        unfold f_X10_commit_40
        simp only [litM]
        rw [m_refuses hD (by omega), bnd2_k]
      refine Eq.trans hmd1 ?_
      rw [e40]
      by_cases q1 : 0 < n
      · rw [if_pos q1]
      · by_cases q2 : 5 < cnt 20 (X1.1 (a + 18 + 1) 0)
        · rw [if_neg q1, if_pos q2]
        · rw [if_neg q1, if_neg q2, if_neg (by omega)]
