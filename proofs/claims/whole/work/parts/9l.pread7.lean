/-! ===== reading: pieces, in both ===== -/
theorem need_t {τ : Sh} {Y : Mx} {m : Nat} (hm : mdOK τ m) (h : Y.1 m 3 = nI 0) : f_X10_need τ Y m (nI 1) = f_X10_goes τ Y m := by
  unfold f_X10_need
  simp only [litM]
  rw [grd_t hm.1, m_good_t hm h, Option.bind_some, if_neg (by decide), if_neg (by decide)]
  cases f_X10_goes τ Y m <;> rfl
theorem need_f {τ : Sh} {Y : Mx} {m : Nat} (hm : mdOK τ m) (h : Y.1 m 3 = nI 0) : f_X10_need τ Y m (nI 0) = f_X10_wrong τ Y m (nI 1) := by
  unfold f_X10_need
  simp only [litM]
  rw [grd_t hm.1, m_good_t hm h, Option.bind_some, if_neg (by decide), if_pos trivial]
  cases f_X10_wrong τ Y m (nI 1) <;> rfl
theorem need_d {τ : Sh} {Y : Mx} {m : Nat} {x : Int32} (hm : mdOK τ m) (h : ¬ Y.1 m 3 = nI 0) : f_X10_need τ Y m x = some Y := by
  unfold f_X10_need
  simp only [litM]
  rw [grd_t hm.1, m_good_f hm h, Option.bind_some, if_pos rfl]
theorem sign_both {σ τ : Sh} {X Y : Mx} {tp m e st be c : Nat} {β : Nat → Nat} (hp : tpOK σ tp) (hm : mdOK τ m) (h : GdR X Y tp m e β st be) (hc : c = 59 ∨ c = 95 ∨ c = 45) : ∃ b, f_X7_isSign σ X tp (nI c) = some (bI b) ∧ f_X10_isSign τ Y m (nI c) = some (bI b) := by
  obtain ⟨h1, h2, h3, h4, h5, r1, r2, r3, r4, r5, r6, r7, r8⟩ := h
  have he := h1.1
  have m0 := hm.1
  have md : f_X10_isSign τ Y m (nI c) = some (bI (decide (Y.1 m 8 = nI 3) && decide (Y.1 m 12 = nI c))) := by
    unfold f_X10_isSign
    simp only [litM]
    rw [grd_t m0, ldI_t m0, ldI_t m0]
    by_cases q : Y.1 m 8 = nI 3
    · rw [if_pos q, decide_eq_true q, Bool.true_and]
      by_cases q2 : Y.1 m 12 = nI c
      · rw [if_pos q2, decide_eq_true q2]; rfl
      · rw [if_neg q2, decide_eq_false q2]; rfl
    · rw [if_neg q, decide_eq_false q]; rfl
  have nd : ∀ {k}, X.1 tp 6 = nI k → k < 3 → Y.1 m 8 = nI k → ∃ b, f_X7_isSign σ X tp (nI c) = some (bI b) ∧ f_X10_isSign τ Y m (nI c) = some (bI b) := fun {k} a hk b => by
    refine ⟨false, ?_, ?_⟩
    · rw [s_isSign hp r3 (fun q => by rw [a] at q; exact absurd q (nI_ne (by omega) (by omega) (by omega))), a, decide_eq_false (nI_ne (show k ≠ 3 by omega) (by omega) (by omega)), Bool.false_and]
    · rw [md, b, decide_eq_false (nI_ne (show k ≠ 3 by omega) (by omega) (by omega)), Bool.false_and]
  rcases r8 with ⟨-, a, b⟩ | ⟨-, a, b, -⟩ | ⟨-, a, b, -⟩ | ⟨a0, a, k, b, c8⟩
  · exact nd a (by omega) b
  · exact nd a (by omega) b
  · exact nd a (by omega) b
  · have B := h1.2 st (by omega)
    refine ⟨decide (β st = c), ?_, ?_⟩
    · rw [s_isSign hp r3 (fun _ => by omega), a, decide_eq_true rfl, Bool.true_and, B.2.2]
      obtain ⟨-, -, s1, s2, s3⟩ := by_sign (β st) B.1
      refine congrArg (fun z => some (bI z)) (decide_eq_decide.mpr ?_)
      rcases hc with rfl | rfl | rfl
      · exact s1
      · exact s2
      · exact s3
    · rw [md, b, c8]
      refine congrArg (fun z => some (bI z)) ?_
      have b256 := B.1
      by_cases q : β st = c
      · rw [if_pos (show β st = 59 ∨ β st = 45 ∨ β st = 95 by omega), q, decide_eq_true rfl, decide_eq_true rfl, decide_eq_true rfl]
        rfl
      · rw [decide_eq_false (nI_ne q (by omega) (by omega)), decide_eq_false q, Bool.and_false]
theorem semi_both {σ τ : Sh} {X Y : Mx} {tp m e st be : Nat} {β : Nat → Nat} (hp : tpOK σ tp) (hm : mdOK τ m) (h : GdR X Y tp m e β st be) : ∃ X1 Y1, f_X7_takeSemicolon σ X tp = some X1 ∧ f_X10_line_188 τ m Y = some Y1 ∧ (Ok2 X Y tp m e β be X1 Y1 ∧ f_X10_isSign τ Y m (nI 59) = some (nI 1) ∨ No2 X Y tp m e β X1 Y1 ∧ f_X10_isSign τ Y m (nI 59) = some (nI 0) ∧ f_X10_wrong τ Y m (nI 1) = some Y1) := by
  have t0 := hp.1
  obtain ⟨b, e1, e2⟩ := sign_both (c := 59) hp hm h (Or.inl rfl)
  unfold f_X7_takeSemicolon f_X10_line_188
  simp only [litM]
  rw [grd_t t0, e1, Option.bind_some, ldI_t t0, e2, Option.bind_some]
  cases b with
  | true =>
    obtain ⟨X1, Y1, a1, a2, a3⟩ := step_ok hp hm h
    refine ⟨X1, Y1, ?_, ?_, Or.inl ⟨a3, rfl⟩⟩
    · rw [if_neg (by decide), a1, Option.bind_some]
    · rw [show bI true = nI 1 from rfl, need_t hm h.2.2.2.2.1, a2, Option.bind_some]
  | false =>
    obtain ⟨X1, Y1, a1, a2, a3⟩ := die_no (f := 1) hp hm h (by omega) (by omega)
    refine ⟨X1, Y1, ?_, ?_, Or.inr ⟨a3, rfl, a2⟩⟩
    · rw [if_pos bI_f, a1, bnd2_k]
    · rw [show bI false = nI 0 from rfl, need_f hm h.2.2.2.2.1, a2, Option.bind_some]
theorem line188_d {τ : Sh} {Y : Mx} {m : Nat} (hm : mdOK τ m) (h : ¬ Y.1 m 3 = nI 0) : f_X10_line_188 τ m Y = some Y := by
  have m0 := hm.1
  unfold f_X10_line_188 f_X10_isSign
  simp only [litM]
  rw [grd_t m0, ldI_t m0, ldI_t m0]
  have : ∃ v, (if Y.1 m 8 = nI 3 then (if Y.1 m 12 = nI 59 then some (nI 1) else some (nI 0)) else some (nI 0)) = some v := by
    split
    · split <;> exact ⟨_, rfl⟩
    · exact ⟨_, rfl⟩
  obtain ⟨v, e⟩ := this
  rw [e, Option.bind_some, need_d hm h, Option.bind_some]
theorem head_both {σ τ : Sh} {X Y : Mx} {tp m e st be : Nat} {β : Nat → Nat} {b1 b2 : Bool} (hp : tpOK σ tp) (hm : mdOK τ m) (h : GdR X Y tp m e β st be) : ∃ X1 Y1, f_X7_takeHead σ X tp (bI b1) (bI b2) = some X1 ∧ ((f_X10_begins τ Y m (bI (!b1)) (bI (!b2)) = some (nI 1, Y1) ∧ Ok2 X Y tp m e β be X1 Y1 ∧ b1 = true ∧ b2 = true) ∨ (f_X10_begins τ Y m (bI (!b1)) (bI (!b2)) = some (nI 0, Y1) ∧ No2 X Y tp m e β X1 Y1)) := by
  have t0 := hp.1
  have m0 := hm.1
  unfold f_X7_takeHead f_X10_begins f_X10_begins_9 f_X10_begins_18
  simp only [litM]
  rw [grd_t t0, grd_t m0, ldI_t t0, ldI_t t0]
  cases b1 with
  | false =>
    obtain ⟨X1, Y1, a1, a2, a3⟩ := die_no (f := 1) hp hm h (by omega) (by omega)
    refine ⟨X1, Y1, ?_, Or.inr ⟨?_, a3⟩⟩
    · rw [if_pos bI_f, a1, bnd2_k]
    · rw [show (!false) = true from rfl, if_neg (by decide), a2, Option.bind_some, m_wrong_d hm a3.2.2.ny, Option.bind_some, m_good_f hm a3.2.2.ny, Option.bind_some, if_pos rfl]
      split <;> rfl
  | true =>
    cases b2 with
    | false =>
      obtain ⟨X1, Y1, a1, a2, a3⟩ := die_no (f := 2) hp hm h (by omega) (by omega)
      refine ⟨X1, Y1, ?_, Or.inr ⟨?_, a3⟩⟩
      · rw [if_neg (by decide), if_pos bI_f, a1, bnd2_k]
      · rw [show (!false) = true from rfl, show (!true) = false from rfl, if_pos bI_f, if_neg (by decide), a2, Option.bind_some, m_good_f hm a3.2.2.ny, Option.bind_some, if_pos rfl]
    | true =>
      obtain ⟨X1, Y1, a1, a2, a3⟩ := step_ok hp hm h
      refine ⟨X1, Y1, ?_, Or.inl ⟨?_, a3, rfl, rfl⟩⟩
      · rw [if_neg (by decide), if_neg (by decide), a1, Option.bind_some]
      · rw [show (!true) = false from rfl, if_pos bI_f, if_pos bI_f, m_good_t hm h.2.2.2.2.1, Option.bind_some, if_neg (by decide), a2, Option.bind_some]
theorem name_both {σ τ : Sh} {X Y : Mx} {tp m e st be : Nat} {β : Nat → Nat} (hp : tpOK σ tp) (hm : mdOK τ m) (h : GdR X Y tp m e β st be) : (∃ n X1 Y1, f_X7_takeName σ X tp = some (n, X1) ∧ f_X10_nameHere τ Y m = some (n, Y) ∧ f_X10_goes τ Y m = some Y1 ∧ Ok2 X Y tp m e β be X1 Y1) ∨ (∃ v u X1 Y1, f_X7_takeName σ X tp = some (v, X1) ∧ f_X10_nameHere τ Y m = some (u, Y1) ∧ No2 X Y tp m e β X1 Y1) := by
  have m0 := hm.1
  obtain ⟨t0, t1, t2, t3, t4, t5⟩ := id hp
  obtain ⟨h1, h2, h3, h4, h5, r1, r2, r3, r4, r5, r6, r7, r8⟩ := id h
  have he := h1.1
  obtain ⟨Xd, Yd, d1, d2, d3⟩ := die_no (f := 1) hp hm h (by omega) (by omega)
  have e21 : f_X7_takeName_21 σ tp X = some (-(nI 1), Xd) := by
    unfold f_X7_takeName_21
    rw [ldI_t t0]
    rw [show (1 : Int32) = nI 1 from rfl, d1, bnd2_k]
  have e23 : ∃ u, f_X10_nameHere_23 τ m Y = some (u, Yd) := by
    unfold f_X10_nameHere_23 f_X10_nameHere_28
    simp only [litM]
    rw [d2, Option.bind_some, ldJ_t m0]
    exact ⟨_, rfl⟩
  have cl : f_X7_takeName σ X tp = (if X.1 tp 6 = nI 1 then (if nI (be - st) = nI 1 then bnd2 (f_X7_passed σ X tp (X.1 (tp + 1) st - nI 97)) fun v9 X8 => some (v9, X8) else some (-(nI 1), Xd)) else some (-(nI 1), Xd)) := by
    unfold f_X7_takeName
    simp only [litM]
    rw [grd_t t0, ldI_t t0, e21, ldI_t t0, ldI_t t0, r3, r4, sub_n r1]
    simp only [ldR, t0, t1, if_true, Option.bind_some]
    by_cases q : X.1 tp 6 = nI 1
    · rw [if_pos q, if_pos q]
      by_cases q2 : be - st = 1
      · rw [if_pos (by rw [q2]), if_pos (by rw [q2]), ldI_t t0, r3, ldA_t t3 (by omega) (by omega)]
      · rw [if_neg (nI_ne q2 (by omega) (by omega)), if_neg (nI_ne q2 (by omega) (by omega))]
    · rw [if_neg q, if_neg q]
  have md : f_X10_nameHere τ Y m = (if Y.1 m 8 = nI 1 then (if nI (be - st) = nI 1 then some (Int64.toInt32 (Y.2 m 13) - nI 1, Y) else f_X10_nameHere_23 τ m Y) else f_X10_nameHere_23 τ m Y) := by
    unfold f_X10_nameHere
    simp only [litM]
    rw [grd_t m0, m_good_t hm h5, Option.bind_some, if_neg (by decide), ldI_t m0, ldI_t m0, r7]
    unfold f_X10_nameHere_28
    simp only [litM]
    rw [ldJ_t m0]
  obtain ⟨u, e23⟩ := e23
  rcases h.2.2.2.2.2.k8 with ⟨x6, y8, hlt, hl, hc⟩ | ⟨x6, y8⟩
  · rw [if_pos x6] at cl
    rw [if_pos y8] at md
    by_cases q : be - st = 1
    · rw [if_pos (by rw [q])] at cl md
      obtain ⟨X1, Y1, a1, a2, a3⟩ := step_ok hp hm h
      refine Or.inl ⟨X.1 (tp + 1) st - nI 97, X1, Y1, ?_, ?_, a2, a3⟩
      · rw [cl]
        unfold f_X7_passed
        rw [grd_t t0, a1, Option.bind_some, bnd2_k]
      · rw [md]
        have B := h1.2 st (by omega)
        have kl := hl st (Nat.le_refl _) hlt
        rw [hc, q, B.2.2, by_same _ B.1 (by rw [kl]; omega)]
        have : ∀ b, b < 123 → 97 ≤ b → Int64.toInt32 (nJ (32 * 0 + (b - 96))) - nI 1 = nI b - nI 97 := by decide +kernel
        have k2 := knd_l kl
        show some (Int64.toInt32 (nJ (32 * 0 + (β (st + 0) - 96))) - nI 1, Y) = _
        rw [Nat.add_zero, this (β st) (by omega) (by omega)]
    · rw [if_neg (nI_ne q (by omega) (by omega))] at cl md
      exact Or.inr ⟨_, u, Xd, Yd, cl, md.trans e23, d3⟩
  · rw [if_neg x6] at cl
    rw [if_neg y8] at md
    exact Or.inr ⟨_, u, Xd, Yd, cl, md.trans e23, d3⟩
