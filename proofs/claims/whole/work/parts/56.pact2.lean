/-! ===== an edit by hand ===== -/
/-- a memory for the reference's call: as the class left it, nothing thrown -/
def Mem0 (X Y : Mx) (a : Nat) : Prop := (∀ q, q ≠ a + 108 → Y.1 q = X.1 q) ∧ (∀ j, j ≠ 0 → Y.1 (a + 108) j = X.1 (a + 108) j) ∧ Y.1 (a + 108) 0 = nI 0
theorem bnd2_k {α β ρ : Type} {x : α} {y : β} {k : α → β → Option ρ} : bnd2 (some (x, y)) k = k x y := rfl
theorem edit_both {σ : Sh} {X : Mx} {a L R z e t : Nat} {x y w : Int32} (h : IV σ X a L R) (hz : ∀ q ∈ shL σ, q < z) (ht : t < 2) (he : e < 7) :
    ∃ ok v σ1 X1 c d, f_X9_editByHand σ X z a (nI e) (nI t) x y w = some (.inl v, σ1, X1, c, d) ∧ c + 17 * pot σ1 a ≤ 17 * pot σ a ∧ d + 947 * pot σ1 a ≤ 947 * pot σ a ∧ (ok = false → v = -(nI 1)) ∧ (ok = true → v ≠ -(nI 1) ∧ (e = 5 → ∃ d, d < 2 ∧ X.1 (a + 111) (613 + t) = nI d ∧ v = nI (5 + 2 * t + d))) ∧ (∀ q, a + 108 ≤ q → q ≤ a + 125 → X1.1 q = X.1 q) ∧ IVs σ1 a L R ∧
      ∀ Y : Mx, Mem0 X1 Y a → ∃ Y1, f_X10_edited0 σ1 Y (a + 108) (nI t) (nI (howOf e)) x y w = some (bI ok, Y1) ∧ IV σ1 Y1 a L R ∧ Y1.1 (a + 108) 0 = nI 0 ∧ Y1.2 = Y.2 := by
  obtain ⟨σ1, Xp, c, d, ep, hI, ⟨k, f, s, hk, hf, p2, p1, pr, pS⟩, b1, b2, hXp⟩ := prepare h hz
  obtain ⟨hs, hc, hm, hq⟩ := id hI
  have hD := hs.md
  have lr := hs.2.1.lr
  have o0 : shK σ a = 7 := h.1.1.1.1
  have o1 : shR σ a 0 = some (a + 1) := h.1.1.1.2.1
  have o4 : shR σ a 3 = some (a + 47) := h.1.1.1.2.2.2.2.1
  have q0 : shK σ1 a = 7 := hs.1.1.1
  have q1 : shR σ1 a 0 = some (a + 1) := hs.1.1.2.1
  have rel : ∀ Yt : Mx, (∀ j, j < 931 → Yt.1 (a + 111) (931 + j) = Xp.1 (a + 111) j) → ∃ ok v X1 Y1, f_X5_doEdit σ1 Xp (a + 1) (nI e) (nI t) x y w = some (v, X1) ∧ f_X10_does σ1 Yt (a + 108) (nI 931) (nI t) (nI (howOf e)) x y w = some (bI ok, Y1) ∧ ER ok (a + 1) L R (a + 108) 931 Xp X1 Yt Y1 ∧ (ok = false → v = -(nI 1)) ∧ (ok = true → v ≠ -(nI 1) ∧ (e = 5 → ∃ d, d < 2 ∧ Yt.1 (a + 108 + 3) (931 + 613 + t) = nI d ∧ v = nI (5 + 2 * t + d))) := fun Yt hY =>
    edit_rel hs.2.1 hD (by omega) ht he (hc.1.mvw (fun j hj => by rw [Nat.zero_add]; exact hY j hj))
  have hde : ∀ z', f_X9_demandSide σ X z' (nI t) = some (.inl (), σ, X, 0, 0) := by
    intro z'
    rcases (show t = 0 ∨ t = 1 by omega) with rfl | rfl
    · rfl
    · rfl
  have hcl : f_X9_editByHand σ X z a (nI e) (nI t) x y w = adc 0 0 (adc c d (bnd2 (f_X5_doEdit σ1 Xp (a + 1) (nI e) (nI t) x y w) fun v8 X7 => (if v8 = -(nI 1) then bnd2 (f_X9_refuseAct σ1 X7 a) fun v13 X12 => some (.inl v13, σ1, X12, 0, 0) else (f_X9_keepAct σ1 X7 a).bind fun X10 => some (.inl v8, σ1, X10, 0, 0)))) := by
    unfold f_X9_editByHand
    rw [grd_t o0, hde, bndX_l]
    simp only [ldR, o0, o4, o1, if_true, Option.bind_some, Nat.add_zero]
    rw [ep, bndH_s]
    simp only [q0, q1, if_true, Option.bind_some]
    rfl
  obtain ⟨ok, v, X2, Yx, e1, -, hE, hv0, hv1⟩ := rel (wF Xp (a + 111) (fun j => Xp.1 (a + 111) (j - 931))) (fun j _ => by rw [wF_at, Nat.add_sub_cancel_left])
  have hX2 : ∀ q, (q < a + 1 ∨ a + 17 < q) → X2.1 q = Xp.1 q := fun q hq => hE.2.1.2 q (by omega)
  -- the reference, up to its answer
  have hmd : ∀ X1 : Mx, (∀ q, a + 108 ≤ q → q ≤ a + 125 → X1.1 q = Xp.1 q) → ∀ Y : Mx, Mem0 X1 Y a → ∃ Yt Y1, f_X10_right σ1 Y (a + 108) (f_X10_within (nI t) (nI 0) (nI 1)) (nI 1) = some (nI 1, Y) ∧ f_X10_tries σ1 Y (a + 108) = some Yt ∧ f_X10_does σ1 Yt (a + 108) (nI 931) (nI t) (nI (howOf e)) x y w = some (bI ok, Y1) ∧ ER ok (a + 1) L R (a + 108) 931 Xp X2 Yt Y1 ∧ (∀ q, q ≠ a + 111 → Y1.1 q = Y.1 q) ∧ (∀ j, j < 931 → Y1.1 (a + 111) j = Xp.1 (a + 111) j) ∧ Y1.2 = Y.2 := by
    intro X1 h1 Y ⟨y1, y2, y3⟩
    have ht' : f_X10_within (nI t) (nI 0) (nI 1) = nI 1 := by
      rw [s_win (by omega), inR_t (by omega) (by omega)]
      rfl
    have hY : ∀ j, Y.1 (a + 111) j = Xp.1 (a + 111) j := fun j => by rw [y1 _ (by omega), h1 _ (by omega) (by omega)]
    obtain ⟨Yt, hYt⟩ : ∃ Yt, Yt = wF Y (a + 108 + 3) (fun j => if 931 ≤ j ∧ j < 931 + 931 then Y.1 (a + 108 + 3) (0 + (j - 931)) else Y.1 (a + 108 + 3) j) := ⟨_, rfl⟩
    obtain ⟨ok', v', X2', Y1, k1, k2, k3, k4, k5⟩ := rel Yt (fun j hj => by
      rw [hYt]
      show (wF Y (a + 111) _).1 (a + 111) (931 + j) = _
      rw [wF_at, if_pos (by omega), Nat.zero_add, Nat.add_sub_cancel_left]
      exact hY j)
    rw [e1] at k1
    cases k1
    have hok : ok' = ok := by
      cases ok with
      | false =>
        cases ok' with
        | false => rfl
        | true => exact absurd (hv0 rfl) (k5 rfl).1
      | true =>
        cases ok' with
        | false => exact absurd (k4 rfl) (hv1 rfl).1
        | true => rfl
    subst hok
    refine ⟨Yt, Y1, by rw [ht']; exact s10_rt hD y3 (Or.inl rfl), by rw [s10_tries hD, ← hYt], k2, k3, fun q hq => ?_, fun j hj => ?_, by rw [k3.2.2.1.1, hYt, wF_2]⟩
    · rw [k3.2.2.1.2.1 q (by omega), hYt, wF_fn (by omega)]
    · have g := k3.2.2.1.2.2 j (Or.inl hj)
      refine Eq.trans g ?_
      rw [hYt]
      show (wF Y (a + 111) _).1 (a + 111) j = _
      rw [wF_at, if_neg (by omega)]
      exact hY j
  cases ok with
  | false =>
    obtain ⟨rfl, -⟩ := hE.2.2.2 rfl
    obtain rfl := hv0 rfl
    refine ⟨false, -(nI 1), σ1, sI X2 (a + 107) 1 (X2.1 (a + 107) 1 + nI 1), c, d, ?_, b1, b2, fun _ => rfl, fun h => (by cases h), fun q q1 q2 => ?_, hs, fun Y hY => ?_⟩
    · rw [hcl, e1, bnd2_k, if_pos rfl, refuseAct hs, bnd2_k, adc_some, adc_some]
      simp only [Nat.zero_add, Nat.add_zero]
    · rw [sI_ne (by omega)]; exact hXp q (by omega)
    · obtain ⟨Yt, Y1, k1, k2, k3, k4, k5, k6, k7⟩ := hmd _ (fun q q1 q2 => sI_ne (by omega)) Y hY
      refine ⟨sI Y1 (a + 108 + 2) 1 (Y1.1 (a + 108 + 2) 1 + nI 1), ?_, ?_, ?_, by rw [sI_2, k7]⟩
      · unfold f_X10_edited0
        simp only [litM]
        rw [grd_t hD.1, k1, bnd2_k, if_neg (by decide), k2, Option.bind_some, k3, bnd2_k, if_pos bI_f, m_refuses hD (by omega)]
        rfl
      · refine hI.ref (fun q q1 q2 q3 q4 => ?_) (fun j hj => ?_) (fun j hj => ?_) (fun i hi => ?_)
        · rw [sI_ne (by omega), k5 q (by omega), hY.1 q (by omega), sI_ne (by omega)]
        · rw [sI_na (by omega), k5 _ (by omega), hY.2.1 j hj, sI_na (by omega)]
        · rw [sI_na (by omega)]; exact k6 j hj
        · have r1 : Y1.1 (a + 107) = (sI X2 (a + 107) 1 (X2.1 (a + 107) 1 + nI 1)).1 (a + 107) := by rw [k5 _ (by omega), hY.1 _ (by omega)]
          have r2 : Y1.1 (a + 110) = X2.1 (a + 110) := by rw [k5 _ (by omega), hY.1 _ (by omega), sI_ne (by omega)]
          have r3 := hc.2.2.2.2.2.2.1 i hi
          rw [sI_na (by omega), r1]
          show _ = (sI Y1 (a + 110) 1 (Y1.1 (a + 110) 1 + nI 1)).1 (a + 110) i
          by_cases e : i = 1
          · subst e
            rw [sI_eq, sI_eq, r2, r3]
          · rw [sI_nk e, sI_nk e, r2, r3]
      · rw [sI_na (by omega), k5 _ (by omega)]; exact hY.2.2
  | true =>
    obtain ⟨hv, hv5⟩ := hv1 rfl
    obtain ⟨X3, e3, w1, w2, w3, w4, w5, w6⟩ := keepAct (X := X2) hs hk hf (by rw [hX2 _ (by omega)]; exact p2) (by rw [hX2 _ (by omega)]; exact p1)
    have hX3 : ∀ q, a + 108 ≤ q → q ≤ a + 125 → X3.1 q = Xp.1 q := fun q q1 q2 => by rw [w1 q (by omega) (by omega) (by omega), hX2 q (by omega)]
    refine ⟨true, v, σ1, X3, c, d, ?_, b1, b2, fun h => (by cases h), fun _ => ⟨hv, fun h5 => ?_⟩, fun q q1 q2 => ?_, hs, fun Y hY => ?_⟩
    · rw [hcl, e1, bnd2_k, if_neg hv, e3]
      show some (Sum.inl v, σ1, _, 0 + c + 0, 0 + d + 0) = _
      rw [Nat.zero_add, Nat.zero_add, Nat.add_zero, Nat.add_zero]
    · obtain ⟨dd, d1, d2, d3⟩ := hv5 h5
      refine ⟨dd, d1, ?_, d3⟩
      rw [show (wF Xp (a + 111) (fun j => Xp.1 (a + 111) (j - 931))).1 (a + 108 + 3) (931 + 613 + t) = Xp.1 (a + 111) (931 + 613 + t - 931) from wF_at, show 931 + 613 + t - 931 = 613 + t by omega, hXp _ (by omega)] at d2
      exact d2
    · rw [hX3 q q1 q2]; exact hXp q (by omega)
    · obtain ⟨Yt, Y1, k1, k2, k3, k4, k5, k6, k7⟩ := hmd X3 hX3 Y hY
      have hY1 : ∀ q, q ≠ a + 108 → q ≠ a + 111 → Y1.1 q = X3.1 q := fun q q1 q2 => by rw [k5 q q2, hY.1 q q1]
      have hYm : ∀ j, j ≠ 0 → Y1.1 (a + 108) j = Xp.1 (a + 108) j := fun j hj => by rw [k5 _ (by omega), hY.2.1 j hj, hX3 _ (by omega) (by omega)]
      obtain ⟨k', f', j1, j2, j3, j4, j5, j6⟩ := id hc.2.2.1
      have hk' : k' = k := nI_inj (by omega) (by omega) (j3.symm.trans p2)
      obtain ⟨Y2, u1, u2, u3, u4, u5, u6, u7⟩ := m_keeps (Y := Y1) hD hk (by rw [hYm 19 (by omega), j4, hk'])
      obtain ⟨Y3, hY3⟩ : ∃ Y3, Y3 = wF Y2 (a + 108 + 3) (fun j => if 0 ≤ j ∧ j < 0 + 931 then Y2.1 (a + 108 + 3) (931 + (j - 0)) else Y2.1 (a + 108 + 3) j) := ⟨_, rfl⟩
      have hb := m_back (Y := Y2) hD
      rw [← hY3] at hb
      have y3 : ∀ q, q ≠ a + 111 → Y3.1 q = Y2.1 q := fun q hq => by rw [hY3, wF_fn (by omega)]
      have y4 : ∀ q, q ≠ a + 108 → q ≠ a + 111 → q ≠ a + 112 → Y3.1 q = X3.1 q := fun q q1 q2 q3 => by rw [y3 q q2, u3 q (by omega) (by omega), hY1 q q1 q2]
      have y5 : ∀ q, q ≠ a + 108 → q ≠ a + 111 → q ≠ a + 112 → q ≠ a → q ≠ a + 81 → q ≠ a + 47 → (q < a + 1 ∨ a + 17 < q) → Y3.1 q = Xp.1 q := fun q q1 q2 q3 q4 q5 q6 q7 => by rw [y4 q q1 q2 q3, w1 q q4 q5 q6, hX2 q q7]
      have ya : Y3.1 a = X3.1 a := y4 a (by omega) (by omega) (by omega)
      have ym : ∀ j, j ≠ 0 → j ≠ 19 → Y3.1 (a + 108) j = Xp.1 (a + 108) j := fun j h0 h1 => by rw [y3 _ (by omega), u4 j h1, hYm j h0]
      have y112 : Y3.1 (a + 112) = Y2.1 (a + 108 + 4) := y3 _ (by omega)
      have x112 : Y1.1 (a + 108 + 4) = Xp.1 (a + 112) := by rw [hY1 _ (by omega) (by omega)]; exact hX3 _ (by omega) (by omega)
      refine ⟨Y3, ?_, ?_, ?_, by rw [hY3, wF_2, u2, k7]⟩
      · unfold f_X10_edited0
        simp only [litM]
        rw [grd_t hD.1, k1, bnd2_k, if_neg (by decide), k2, Option.bind_some, k3, bnd2_k, if_neg (by decide), u1]
        exact hb
      · refine hI.kept hs (fun q hq => y5 q (by omega) (by omega) (by omega) (by omega) (by omega) (by omega) (by omega)) ?_ ?_ (fun j hj => ym j (by omega) (by omega)) ?_ ?_ ?_ (fun q hq => ?_)
        · rw [ya, w2 9 (by omega), hX2 a (by omega)]
        · rw [ya, w2 11 (by omega), hX2 a (by omega)]
        · refine (k4.1.fr (X1 := Y3.1) lr (fun q q1 q2 => ?_) (fun _ _ => rfl)).mvw (fun j hj => ?_)
          · rw [y4 q (by omega) (by omega) (by omega), w1 q (by omega) (by omega) (by omega)]
          · rw [hY3]
            show (wF Y2 (a + 111) _).1 (a + 111) (0 + j) = _
            rw [wF_at, if_pos (by omega), u3 _ (by omega) (by omega), Nat.sub_zero, Nat.zero_add]
        · refine acts_kept (X := Xp.1) hc.2.2.1 hk hf p2 p1 pr pS ?_ ?_ ?_ (fun j hj => ?_) (fun j hj => ?_) (fun q hq => y5 q (by omega) (by omega) (by omega) (by omega) (by omega) (by omega) (by omega)) hs.2.2.1
          · rw [y4 _ (by omega) (by omega) (by omega)]; exact w5
          · rw [y4 _ (by omega) (by omega) (by omega)]; exact w6
          · rw [y3 _ (by omega)]; exact u5
          · rw [y112, u6 j hj, x112]
          · rw [y112, u7 j hj]
            exact k6 j hj
        · rw [ya]; exact w3
        · rw [y4 _ (by omega) (by omega) (by omega)]; exact w4 q hq
      · rw [y3 _ (by omega), u4 0 (by omega), k5 _ (by omega)]; exact hY.2.2
