theorem num48x {σ : Sh} {X : Mx} {tp e st be : Nat} {x : Int32} {β : Nat → Nat} (hp : tpOK σ tp) (h8 : X.1 tp 8 = nI be) (he : e ≤ 700) (hbe : be ≤ e) (hb : ∀ j, j < e → β j < 256 ∧ X.1 (tp + 1) j = sx (β j)) (hl : ∀ j, st ≤ j → j < be → knd (β j) = 2) (h4 : be - st ≤ 4) : ∀ (r k N : Nat), k + r = be → st ≤ k → r < N → f_X7_takeNumber_48 σ tp x N X (nI (vl β st (k - st))) (nI k) = f_X7_takeNumber_84 σ tp x (nI (vl β st (be - st))) X := by
  obtain ⟨t0, t1, t2, t3, t4, t5⟩ := hp
  intro r
  induction r with
  | zero =>
    intro k N hk hs hN
    obtain ⟨N, rfl⟩ : ∃ N', N = N' + 1 := ⟨N - 1, by omega⟩
    rw [f_X7_takeNumber_48]
    simp only [litM]
    rw [ldI_t t0, h8, if_pos (by rw [n_le (by omega) (by omega)]; omega), show k = be by omega]
  | succ r ih =>
    intro k N hk hs hN
    obtain ⟨N, rfl⟩ : ∃ N', N = N' + 1 := ⟨N - 1, by omega⟩
    refine Eq.trans ?_ (ih (k + 1) N (by omega) (by omega) (by omega))
    rw [f_X7_takeNumber_48]
    simp only [litM]
    rw [ldI_t t0, h8, if_neg (by rw [n_le (by omega) (by omega)]; omega), if_neg (by rw [n_le (by omega) (by omega)]; omega)]
    simp only [ldR, t0, t1, if_true, Option.bind_some]
    have kl := hl k hs (by omega)
    have kd := knd_d kl
    rw [ldA_t t3 (by omega) (by omega), nI_add, (hb k (by omega)).2, by_same _ (hb k (by omega)).1 (by rw [kl]; omega), nI_mul, nI_add, sub_n (by omega)]
    rw [show vl β st (k - st) * 10 + β k - 48 = vl β st (k + 1 - st) by
      rw [show k + 1 - st = (k - st) + 1 by omega, vl, show st + (k - st) = k by omega]
      omega]
theorem num_both {σ τ : Sh} {X Y : Mx} {tp m e st be lim : Nat} {β : Nat → Nat} (hp : tpOK σ tp) (hm : mdOK τ m) (h : GdR X Y tp m e β st be) (hlim : lim ≤ 9999) : (∃ n X1 Y1, n ≤ lim ∧ f_X7_takeNumber σ X tp (nI lim) = some (nI n, X1) ∧ f_X10_numberHere τ Y m (nI lim) = some (nI n, Y) ∧ f_X10_goes τ Y m = some Y1 ∧ Ok2 X Y tp m e β be X1 Y1) ∨ (∃ v u X1 Y1, f_X7_takeNumber σ X tp (nI lim) = some (v, X1) ∧ f_X10_numberHere τ Y m (nI lim) = some (u, Y1) ∧ No2 X Y tp m e β X1 Y1) := by
  have m0 := hm.1
  have t0 := hp.1
  obtain ⟨h1, h2, h3, h4, h5, r1, r2, r3, r4, r5, r6, r7, r8⟩ := id h
  have he := h1.1
  obtain ⟨Xd, Yd, d1, d2, d3⟩ := die_no (f := 1) hp hm h (by omega) (by omega)
  obtain ⟨Xe, Ye, d4, d5, d6⟩ := die_no (f := 2) hp hm h (by omega) (by omega)
  have e41 : ∃ u, f_X10_numberHere_41 τ m Y = some (u, Ye) := by
    unfold f_X10_numberHere_41
    simp only [litM]
    rw [d5, Option.bind_some, ldI_t m0]
    exact ⟨_, rfl⟩
  obtain ⟨u, e41⟩ := e41
  have cl : f_X7_takeNumber σ X tp (nI lim) = (if X.1 tp 6 = nI 2 then (if nI (be - st) ≤ nI 4 then f_X7_takeNumber_48 σ tp (nI lim) FU X (nI 0) (nI st) else some (-(nI 1), Xe)) else some (-(nI 1), Xd)) := by
    unfold f_X7_takeNumber
    simp only [litM]
    rw [grd_t t0, ldI_t t0, ldI_t t0, ldI_t t0, ldI_t t0, ldI_t t0, ldI_t t0, d1, bnd2_k, d4, bnd2_k, r3, r4, sub_n r1]
  have md : f_X10_numberHere τ Y m (nI lim) = (if Y.1 m 8 = nI 2 then (if nI 4 < nI (be - st) then some (u, Ye) else (if Y.1 m 11 ≤ nI lim then some (Y.1 m 11, Y) else some (u, Ye))) else some (Yd.1 m 11, Yd)) := by
    unfold f_X10_numberHere
    simp only [litM]
    rw [grd_t m0, m_good_t hm h5, Option.bind_some, if_neg (by decide), ldI_t m0, ldI_t m0, ldI_t m0, ldI_t m0, r7, e41, d2, Option.bind_some, ldI_t m0]
  have nd : ¬ X.1 tp 6 = nI 2 → ¬ Y.1 m 8 = nI 2 → (∃ v u X1 Y1, f_X7_takeNumber σ X tp (nI lim) = some (v, X1) ∧ f_X10_numberHere τ Y m (nI lim) = some (u, Y1) ∧ No2 X Y tp m e β X1 Y1) := fun a b => by
    rw [if_neg a] at cl
    rw [if_neg b] at md
    exact ⟨_, _, Xd, Yd, cl, md, d3⟩
  rcases r8 with ⟨-, a, b⟩ | ⟨-, a, b, -⟩ | ⟨hlt, a, b, hl, hv⟩ | ⟨-, a, -, -, b⟩
  · exact Or.inr (nd (by rw [a]; decide) (by rw [b]; decide))
  · exact Or.inr (nd (by rw [a]; decide) (by rw [b]; decide))
  · rw [if_pos a] at cl
    rw [if_pos b] at md
    by_cases q : be - st ≤ 4
    · have v4 := vl_lt (β := β) (s := st) (n := be - st) (fun j hj => hl _ (by omega) (by omega))
      have p4 : 10 ^ (be - st) ≤ 10 ^ 4 := Nat.pow_le_pow_right (by omega) q
      rw [if_pos (by rw [n_le (by omega) (by omega)]; exact q)] at cl
      have c2 := num48x (x := nI lim) hp r4 he r2 (fun j hj => ⟨(h1.2 j hj).1, (h1.2 j hj).2.2⟩) hl q (be - st) st FU (by omega) (Nat.le_refl _) (by rw [FU_40000]; omega)
      rw [Nat.sub_self] at c2
      replace cl := cl.trans c2
      rw [if_neg (by rw [n_lt (by omega) (by omega)]; omega), hv, show min (be - st) 4 = be - st by omega] at md
      unfold f_X7_takeNumber_84 at cl
      simp only [litM] at cl
      rw [ldI_t t0, d4, bnd2_k] at cl
      by_cases ql : vl β st (be - st) ≤ lim
      · obtain ⟨X1, Y1, a1, a2, a3⟩ := step_ok hp hm h
        rw [if_pos (by rw [n_le (by omega) (by omega)]; exact ql), a1, Option.bind_some] at cl
        rw [if_pos (by rw [n_le (by omega) (by omega)]; exact ql)] at md
        exact Or.inl ⟨_, X1, Y1, ql, cl, md, a2, a3⟩
      · rw [if_neg (by rw [n_le (by omega) (by omega)]; exact ql)] at cl
        rw [if_neg (by rw [n_le (by omega) (by omega)]; exact ql)] at md
        exact Or.inr ⟨_, _, Xe, Ye, cl, md, d6⟩
    · rw [if_neg (by rw [n_le (by omega) (by omega)]; exact q)] at cl
      rw [if_pos (by rw [n_lt (by omega) (by omega)]; omega)] at md
      exact Or.inr ⟨_, _, Xe, Ye, cl, md, d6⟩
  · refine Or.inr (nd (by rw [a]; decide) ?_)
    rw [b]
    split <;> decide
theorem number_both {σ τ : Sh} {X Y : Mx} {tp m e st be lim : Nat} {β : Nat → Nat} (hp : tpOK σ tp) (hm : mdOK τ m) (h : GdR X Y tp m e β st be) (hlim : lim ≤ 9999) : (∃ n X1 Y1, n ≤ lim ∧ f_X7_takeNumber σ X tp (nI lim) = some (nI n, X1) ∧ f_X10_number τ Y m (nI lim) = some (nI n, Y1) ∧ Ok2 X Y tp m e β be X1 Y1) ∨ (∃ v u X1 Y1, f_X7_takeNumber σ X tp (nI lim) = some (v, X1) ∧ f_X10_number τ Y m (nI lim) = some (u, Y1) ∧ No2 X Y tp m e β X1 Y1) := by
  have m0 := hm.1
  rcases num_both hp hm h hlim with ⟨n, X1, Y1, a1, a2, a3, a4, a5⟩ | ⟨v, u, X1, Y1, a1, a2, a3⟩
  · refine Or.inl ⟨n, X1, Y1, a1, a2, ?_, a5⟩
    unfold f_X10_number
    simp only [litM]
    rw [grd_t m0, a3, bnd2_k, m_good_t hm h.2.2.2.2.1, Option.bind_some, if_neg (by decide), a4, Option.bind_some]
  · refine Or.inr ⟨v, u, X1, Y1, a1, ?_, a3⟩
    unfold f_X10_number
    simp only [litM]
    rw [grd_t m0, a2, bnd2_k, m_good_f hm a3.2.2.ny, Option.bind_some, if_pos rfl]
theorem cell_both {σ τ : Sh} {X Y : Mx} {tp m e st be : Nat} {β : Nat → Nat} (hp : tpOK σ tp) (hm : mdOK τ m) (h : GdR X Y tp m e β st be) : (∃ n X1 Y1, f_X7_takeCell σ X tp = some (n, X1) ∧ f_X10_cellOf τ Y m = some (n, Y1) ∧ Ok2 X Y tp m e β be X1 Y1) ∨ (∃ v u X1 Y1, f_X7_takeCell σ X tp = some (v, X1) ∧ f_X10_cellOf τ Y m = some (u, Y1) ∧ No2 X Y tp m e β X1 Y1) := by
  have m0 := hm.1
  have t0 := hp.1
  obtain ⟨b1, e1, e2⟩ := sign_both (c := 95) hp hm h (Or.inr (Or.inl rfl))
  obtain ⟨b2, e3, e4⟩ := sign_both (c := 45) hp hm h (Or.inr (Or.inr rfl))
  have fin : ∀ (X Y : Mx) (st be : Nat) (s : Bool), GdR X Y tp m e β st be → (∃ n X1 Y1, f_X7_takeCell_32 σ tp (bI s) X = some (n, X1) ∧ f_X10_cellOf_41 τ m (bI s) Y = some (n, Y1) ∧ Ok2 X Y tp m e β be X1 Y1) ∨ (∃ v u X1 Y1, f_X7_takeCell_32 σ tp (bI s) X = some (v, X1) ∧ f_X10_cellOf_41 τ m (bI s) Y = some (u, Y1) ∧ No2 X Y tp m e β X1 Y1) := by
    intro X Y st be s h
    have ng : ∀ v : Int32, -v = nI 0 - v := fun v => by
      rw [show nI 0 = (0 : Int32) from rfl, Int32.zero_sub]
    rcases number_both (lim := 999) hp hm h (by omega) with ⟨n, X1, Y1, -, a2, a3, a4⟩ | ⟨v, u, X1, Y1, a2, a3, a4⟩
    · refine Or.inl ?_
      unfold f_X7_takeCell_32 f_X10_cellOf_41
      simp only [litM]
      rw [a2, a3, bnd2_k, bnd2_k]
      cases s with
      | false => exact ⟨nI n, X1, Y1, if_pos rfl, if_pos rfl, a4⟩
      | true => exact ⟨-(nI n), X1, Y1, if_neg (by decide), by rw [if_neg (by decide), ng], a4⟩
    · refine Or.inr ?_
      unfold f_X7_takeCell_32 f_X10_cellOf_41
      simp only [litM]
      rw [a2, a3, bnd2_k, bnd2_k]
      cases s with
      | false => exact ⟨v, u, X1, Y1, if_pos rfl, if_pos rfl, a4⟩
      | true => exact ⟨-v, nI 0 - u, X1, Y1, if_neg (by decide), if_neg (by decide), a4⟩
  have cl : f_X7_takeCell σ X tp = (if b1 = true then bnd2 (f_X7_passed σ X tp (nI 9999)) fun v9 X8 => some (v9, X8) else if b2 = true then (f_X7_step σ X tp).bind fun X6 => f_X7_takeCell_32 σ tp (bI b2) X6 else f_X7_takeCell_32 σ tp (bI b2) X) := by
    unfold f_X7_takeCell
    simp only [litM]
    rw [grd_t t0, e1, Option.bind_some, e3, Option.bind_some, ifI, ifI]
  have md : f_X10_cellOf τ Y m = (if b1 = true then (f_X10_goes τ Y m).bind fun X10 => some (nI 9999, X10) else if b2 = true then (f_X10_goes τ Y m).bind fun X8 => f_X10_cellOf_41 τ m (bI b2) X8 else f_X10_cellOf_41 τ m (bI b2) Y) := by
    unfold f_X10_cellOf
    simp only [litM]
    rw [grd_t m0, m_good_t hm h.2.2.2.2.1, Option.bind_some, if_neg (by decide), e2, Option.bind_some, e4, Option.bind_some, ifI, ifI]
  cases b1 with
  | true =>
    rw [if_pos rfl] at cl md
    obtain ⟨X1, Y1, a1, a2, a3⟩ := step_ok hp hm h
    refine Or.inl ⟨nI 9999, X1, Y1, ?_, ?_, a3⟩
    · rw [cl]
      unfold f_X7_passed
      rw [grd_t t0, a1, Option.bind_some, bnd2_k]
    · rw [md, a2, Option.bind_some]
  | false =>
    rw [if_neg (by decide)] at cl md
    cases b2 with
    | false =>
      rw [if_neg (by decide)] at cl md
      rcases fin X Y st be false h with ⟨n, X1, Y1, a1, a2, a3⟩ | ⟨v, u, X1, Y1, a1, a2, a3⟩
      · exact Or.inl ⟨n, X1, Y1, cl.trans a1, md.trans a2, a3⟩
      · exact Or.inr ⟨v, u, X1, Y1, cl.trans a1, md.trans a2, a3⟩
    | true =>
      rw [if_pos rfl] at cl md
      obtain ⟨X1, Y1, a1, a2, a3, a4, st1, be1, a5, a6⟩ := step_ok hp hm h
      rw [a1, Option.bind_some] at cl
      rw [a2, Option.bind_some] at md
      rcases fin X1 Y1 st1 be1 true a6 with ⟨n, X2, Y2, b1, b2, b3, b4, st2, be2, b5, b6⟩ | ⟨v, u, X2, Y2, b1, b2, b3, b4, b5⟩
      · have := a6.2.2.2.2.2.1
        exact Or.inl ⟨n, X2, Y2, cl.trans b1, md.trans b2, a3.trans b3, a4.trans b4, st2, be2, by omega, b6⟩
      · exact Or.inr ⟨v, u, X2, Y2, cl.trans b1, md.trans b2, a3.trans b3, a4.trans b4, b5⟩
theorem type_both {σ τ : Sh} {X Y : Mx} {tp m e st be : Nat} {β : Nat → Nat} (hp : tpOK σ tp) (hm : mdOK τ m) (h : GdR X Y tp m e β st be) : (∃ n X1 Y1, n < 4 ∧ f_X7_takeType σ X tp = some (nI n, X1) ∧ f_X10_typeOf τ Y m = some (nI n, Y1) ∧ Ok2 X Y tp m e β be X1 Y1) ∨ (∃ v u X1 Y1, f_X7_takeType σ X tp = some (v, X1) ∧ f_X10_typeOf τ Y m = some (u, Y1) ∧ No2 X Y tp m e β X1 Y1) := by
  have m0 := hm.1
  have t0 := hp.1
  obtain ⟨Xd, Yd, d1, d2, d3⟩ := die_no (f := 1) hp hm h (by omega) (by omega)
  have e23 : ∀ v, f_X10_typeOf_23 τ m v Y = some (v, Yd) := fun v => by
    unfold f_X10_typeOf_23 f_X10_typeOf_28
    simp only [litM]
    rw [d2, Option.bind_some, m_good_f hm d3.2.2.ny, Option.bind_some, if_pos rfl]
  have md : ∀ v, f_X10_knownWord τ Y m = some v → f_X10_typeOf τ Y m = (if v < nI 0 then some (v, Yd) else if v ≤ nI 3 then f_X10_typeOf_28 τ m v Y else some (v, Yd)) := fun v hv => by
    unfold f_X10_typeOf
    simp only [litM]
    rw [grd_t m0, m_good_t hm h.2.2.2.2.1, Option.bind_some, if_neg (by decide), hv, Option.bind_some, e23]
  rcases known_both hp hm h.1 h.2.2.2.2.2 with ⟨i, hi, k1, k2⟩ | ⟨k1, k2⟩
  · have cl : f_X7_takeType σ X tp = (if i < 4 then bnd2 (f_X7_passed σ X tp (nI i)) fun v15 X14 => some (v15, X14) else some (-(nI 1), Xd)) := by
      unfold f_X7_takeType
      simp only [litM]
      rw [grd_t t0, k2 14 (by omega), Option.bind_some, k2 15 (by omega), Option.bind_some, k2 16 (by omega), Option.bind_some, k2 17 (by omega), Option.bind_some, ldI_t t0, d1, bnd2_k, ifI, ifI, ifI, ifI]
      by_cases q : i < 4
      · rcases (show i = 0 ∨ i = 1 ∨ i = 2 ∨ i = 3 by omega) with rfl | rfl | rfl | rfl <;> rfl
      · have e : ∀ w, 14 ≤ w → w < 18 → decide (w = pw i) = false := fun w h1 h2 => decide_eq_false (by unfold pw; rw [if_neg q]; omega)
        rw [e 14 (by omega) (by omega), e 15 (by omega) (by omega), e 16 (by omega) (by omega), e 17 (by omega) (by omega), if_neg q]
        rfl
    have md := md _ k1
    rw [if_neg (by rw [n_lt (by omega) (by omega)]; omega)] at md
    by_cases q : i < 4
    · obtain ⟨X1, Y1, a1, a2, a3⟩ := step_ok hp hm h
      refine Or.inl ⟨i, X1, Y1, q, ?_, ?_, a3⟩
      · rw [cl, if_pos q]
        unfold f_X7_passed
        rw [grd_t t0, a1, Option.bind_some, bnd2_k]
      · rw [md, if_pos (by rw [n_le (by omega) (by omega)]; omega)]
        unfold f_X10_typeOf_28
        simp only [litM]
        rw [m_good_t hm h.2.2.2.2.1, Option.bind_some, if_neg (by decide), a2, Option.bind_some]
    · rw [if_neg q] at cl
      rw [if_neg (by rw [n_le (by omega) (by omega)]; omega)] at md
      exact Or.inr ⟨_, _, Xd, Yd, cl, md, d3⟩
  · have cl : f_X7_takeType σ X tp = some (-(nI 1), Xd) := by
      unfold f_X7_takeType
      simp only [litM]
      rw [grd_t t0, k2 14 (by omega), Option.bind_some, if_pos rfl, k2 15 (by omega), Option.bind_some, if_pos rfl, k2 16 (by omega), Option.bind_some, if_pos rfl, k2 17 (by omega), Option.bind_some, if_pos rfl, ldI_t t0, d1, bnd2_k]
    have md := md _ k1
    rw [if_pos (by decide)] at md
    exact Or.inr ⟨_, _, Xd, Yd, cl, md, d3⟩
