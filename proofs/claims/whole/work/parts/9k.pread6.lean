/-! ===== reading: the class behind a fault ===== -/
theorem w_tot {σ : Sh} {X : Mx} {tp e w : Nat} {β : Nat → Nat} (hp : tpOK σ tp) (h : RdC X tp e β) (hw : w < 18) : ∃ b, f_X7_isWord σ X tp w = some (bI b) := by
  obtain ⟨he, hb, h5, st, be, r1, r2, r3, r4, r5⟩ := h
  exact ⟨_, s_isWord hp hw r3 r4 r1 (by omega)⟩
theorem s_isSign {σ : Sh} {X : Mx} {tp st : Nat} {c : Int32} (hp : tpOK σ tp) (h7 : X.1 tp 7 = nI st) (hst : X.1 tp 6 = nI 3 → st < 700) : f_X7_isSign σ X tp c = some (bI (decide (X.1 tp 6 = nI 3) && decide (X.1 (tp + 1) st = c))) := by
  obtain ⟨t0, t1, t2, t3, t4, t5⟩ := hp
  unfold f_X7_isSign
  simp only [litM]
  rw [grd_t t0, ldI_t t0]
  by_cases q : X.1 tp 6 = nI 3
  · have := hst q
    rw [if_pos q, ldI_t t0, h7, if_neg (by rw [n_le (by omega) (by omega)]; omega), decide_eq_true q, Bool.true_and]
    simp only [ldR, t0, t1, if_true, Option.bind_some]
    rw [ldI_t t0, h7, ldA_t t3 (by omega) (by omega)]
    by_cases q2 : X.1 (tp + 1) st = c
    · rw [if_pos q2, decide_eq_true q2]; rfl
    · rw [if_neg q2, decide_eq_false q2]; rfl
  · rw [if_neg q, decide_eq_false q]; rfl
theorem sg_tot {σ : Sh} {X : Mx} {tp e : Nat} {c : Int32} {β : Nat → Nat} (hp : tpOK σ tp) (h : RdC X tp e β) : ∃ b, f_X7_isSign σ X tp c = some (bI b) := by
  obtain ⟨he, hb, h5, st, be, r1, r2, r3, r4, r5⟩ := h
  refine ⟨_, s_isSign hp r3 (fun q => ?_)⟩
  rcases r5 with r | ⟨r, -⟩
  · rw [r] at q; exact absurd q (by decide)
  · omega
theorem pass_d {σ τ : Sh} {X : Mx} {tp m e : Nat} {β : Nat → Nat} {v : Int32} (hp : tpOK σ tp) (hm : mdOK τ m) (h : RdC X tp e β) : ∃ X1, f_X7_passed σ X tp v = some (v, X1) ∧ CD X X1 tp e β := by
  obtain ⟨X1, e1, e2⟩ := c_step hp hm h
  refine ⟨X1, ?_, e2⟩
  unfold f_X7_passed
  rw [grd_t hp.1, e1, Option.bind_some]
theorem head_d {σ τ : Sh} {X : Mx} {tp m e : Nat} {β : Nat → Nat} {x y : Int32} (hp : tpOK σ tp) (hm : mdOK τ m) (h : RdC X tp e β) (hf : ¬ X.1 tp 4 = nI 0) : ∃ X1, f_X7_takeHead σ X tp x y = some X1 ∧ CD X X1 tp e β := by
  have t0 := hp.1
  unfold f_X7_takeHead
  simp only [litM]
  rw [grd_t t0, ldI_t t0, c_fail_d hp hf, bnd2_k, ldI_t t0, c_fail_d hp hf, bnd2_k]
  by_cases q : x = nI 0
  · rw [if_pos q]; exact ⟨X, rfl, CD.refl h⟩
  · rw [if_neg q]
    by_cases q2 : y = nI 0
    · rw [if_pos q2]; exact ⟨X, rfl, CD.refl h⟩
    · rw [if_neg q2]
      obtain ⟨X1, e1, e2⟩ := c_step hp hm h
      exact ⟨X1, by rw [e1, Option.bind_some], e2⟩
theorem name_d {σ τ : Sh} {X : Mx} {tp m e : Nat} {β : Nat → Nat} (hp : tpOK σ tp) (hm : mdOK τ m) (h : RdC X tp e β) (hf : ¬ X.1 tp 4 = nI 0) : ∃ v X1, f_X7_takeName σ X tp = some (v, X1) ∧ CD X X1 tp e β := by
  obtain ⟨t0, t1, t2, t3, t4, t5⟩ := id hp
  obtain ⟨he, hb, h5, st, be, r1, r2, r3, r4, r5⟩ := id h
  have e21 : f_X7_takeName_21 σ tp X = some (-(nI 1), X) := by
    unfold f_X7_takeName_21
    rw [ldI_t t0, c_fail_d hp hf, bnd2_k]
  unfold f_X7_takeName
  simp only [litM]
  rw [grd_t t0, ldI_t t0, e21]
  by_cases q : X.1 tp 6 = nI 1
  · rw [if_pos q, ldI_t t0, ldI_t t0, r3, r4, sub_n r1]
    by_cases q2 : be - st = 1
    · rw [if_pos (by rw [q2])]
      simp only [ldR, t0, t1, if_true, Option.bind_some]
      rw [ldI_t t0, r3, ldA_t t3 (by omega) (by omega)]
      obtain ⟨X1, e1, e2⟩ := pass_d (v := X.1 (tp + 1) st - nI 97) hp hm h
      exact ⟨_, X1, by rw [e1, bnd2_k], e2⟩
    · rw [if_neg (nI_ne q2 (by omega) (by omega))]; exact ⟨_, X, rfl, CD.refl h⟩
  · rw [if_neg q]; exact ⟨_, X, rfl, CD.refl h⟩
theorem type_d {σ τ : Sh} {X : Mx} {tp m e : Nat} {β : Nat → Nat} (hp : tpOK σ tp) (hm : mdOK τ m) (h : RdC X tp e β) (hf : ¬ X.1 tp 4 = nI 0) : ∃ v X1, f_X7_takeType σ X tp = some (v, X1) ∧ CD X X1 tp e β := by
  have t0 := hp.1
  obtain ⟨b1, e1⟩ := w_tot (w := 14) hp h (by omega)
  obtain ⟨b2, e2⟩ := w_tot (w := 15) hp h (by omega)
  obtain ⟨b3, e3⟩ := w_tot (w := 16) hp h (by omega)
  obtain ⟨b4, e4⟩ := w_tot (w := 17) hp h (by omega)
  have ps : ∀ v : Int32, ∃ v1 X1, (bnd2 (f_X7_passed σ X tp v) fun v15 X14 => some (v15, X14)) = some (v1, X1) ∧ CD X X1 tp e β := fun v => by
    obtain ⟨X1, p1, p2⟩ := pass_d (v := v) hp hm h
    exact ⟨v, X1, by rw [p1, bnd2_k], p2⟩
  unfold f_X7_takeType
  simp only [litM]
  rw [grd_t t0, e1, Option.bind_some, e2, Option.bind_some, e3, Option.bind_some, e4, Option.bind_some, ldI_t t0, c_fail_d hp hf, bnd2_k]
  cases b1 with
  | true => rw [if_neg (by decide)]; exact ps _
  | false =>
    rw [if_pos bI_f]
    cases b2 with
    | true => rw [if_neg (by decide)]; exact ps _
    | false =>
      rw [if_pos bI_f]
      cases b3 with
      | true => rw [if_neg (by decide)]; exact ps _
      | false =>
        rw [if_pos bI_f]
        cases b4 with
        | true => rw [if_neg (by decide)]; exact ps _
        | false => rw [if_pos bI_f]; exact ⟨_, X, rfl, CD.refl h⟩
theorem semi_d {σ τ : Sh} {X : Mx} {tp m e : Nat} {β : Nat → Nat} (hp : tpOK σ tp) (hm : mdOK τ m) (h : RdC X tp e β) (hf : ¬ X.1 tp 4 = nI 0) : ∃ X1, f_X7_takeSemicolon σ X tp = some X1 ∧ CD X X1 tp e β := by
  have t0 := hp.1
  obtain ⟨b1, e1⟩ := sg_tot (c := nI 59) hp h
  unfold f_X7_takeSemicolon
  simp only [litM]
  rw [grd_t t0, e1, Option.bind_some, ldI_t t0, c_fail_d hp hf, bnd2_k]
  cases b1 with
  | false => rw [if_pos bI_f]; exact ⟨X, rfl, CD.refl h⟩
  | true =>
    rw [if_neg (by decide)]
    obtain ⟨X1, p1, p2⟩ := c_step hp hm h
    exact ⟨X1, by rw [p1, Option.bind_some], p2⟩
theorem num48 {σ : Sh} {X : Mx} {tp be : Nat} {x : Int32} (hp : tpOK σ tp) (h8 : X.1 tp 8 = nI be) (hbe : be ≤ 700) : ∀ (r k N : Nat) (v : Int32), k + r = be → r < N → ∃ v1, f_X7_takeNumber_48 σ tp x N X v (nI k) = f_X7_takeNumber_84 σ tp x v1 X := by
  obtain ⟨t0, t1, t2, t3, t4, t5⟩ := hp
  intro r
  induction r with
  | zero =>
    intro k N v hk hN
    obtain ⟨N, rfl⟩ : ∃ N', N = N' + 1 := ⟨N - 1, by omega⟩
    refine ⟨v, ?_⟩
    rw [f_X7_takeNumber_48]
    simp only [litM]
    rw [ldI_t t0, h8, if_pos (by rw [n_le (by omega) (by omega)]; omega)]
  | succ r ih =>
    intro k N v hk hN
    obtain ⟨N, rfl⟩ : ∃ N', N = N' + 1 := ⟨N - 1, by omega⟩
    obtain ⟨v1, e1⟩ := ih (k + 1) N ((v * nI 10 + X.1 (tp + 1) k) - nI 48) (by omega) (by omega)
    refine ⟨v1, Eq.trans ?_ e1⟩
    rw [f_X7_takeNumber_48]
    simp only [litM]
    rw [ldI_t t0, h8, if_neg (by rw [n_le (by omega) (by omega)]; omega), if_neg (by rw [n_le (by omega) (by omega)]; omega)]
    simp only [ldR, t0, t1, if_true, Option.bind_some]
    rw [ldA_t t3 (by omega) (by omega), nI_add]
theorem num_d {σ τ : Sh} {X : Mx} {tp m e : Nat} {β : Nat → Nat} {x : Int32} (hp : tpOK σ tp) (hm : mdOK τ m) (h : RdC X tp e β) (hf : ¬ X.1 tp 4 = nI 0) : ∃ v X1, f_X7_takeNumber σ X tp x = some (v, X1) ∧ CD X X1 tp e β := by
  have t0 := hp.1
  obtain ⟨he, hb, h5, st, be, r1, r2, r3, r4, r5⟩ := id h
  obtain ⟨v1, e1⟩ := num48 (x := x) hp r4 (show be ≤ 700 by omega) (be - st) st FU (nI 0) (by omega) (by rw [FU_40000]; omega)
  have e84 : ∃ v X1, f_X7_takeNumber_84 σ tp x v1 X = some (v, X1) ∧ CD X X1 tp e β := by
    unfold f_X7_takeNumber_84
    simp only [litM]
    rw [ldI_t t0, c_fail_d hp hf, bnd2_k]
    by_cases q : v1 ≤ x
    · rw [if_pos q]
      obtain ⟨X1, p1, p2⟩ := c_step hp hm h
      exact ⟨_, X1, by rw [p1, Option.bind_some], p2⟩
    · rw [if_neg q]; exact ⟨_, X, rfl, CD.refl h⟩
  unfold f_X7_takeNumber
  simp only [litM]
  rw [grd_t t0, ldI_t t0, ldI_t t0, ldI_t t0, ldI_t t0, ldI_t t0, ldI_t t0, c_fail_d hp hf, bnd2_k, c_fail_d hp hf, bnd2_k, r3, e1]
  by_cases q : X.1 tp 6 = nI 2
  · rw [if_pos q]
    by_cases q2 : X.1 tp 8 - nI st ≤ nI 4
    · rw [if_pos q2]; exact e84
    · rw [if_neg q2]; exact ⟨_, X, rfl, CD.refl h⟩
  · rw [if_neg q]; exact ⟨_, X, rfl, CD.refl h⟩
theorem cell_d {σ τ : Sh} {X : Mx} {tp m e : Nat} {β : Nat → Nat} (hp : tpOK σ tp) (hm : mdOK τ m) (h : RdC X tp e β) (hf : ¬ X.1 tp 4 = nI 0) : ∃ v X1, f_X7_takeCell σ X tp = some (v, X1) ∧ CD X X1 tp e β := by
  have t0 := hp.1
  obtain ⟨b1, e1⟩ := sg_tot (c := nI 95) hp h
  obtain ⟨b2, e2⟩ := sg_tot (c := nI 45) hp h
  have e32 : ∀ (X : Mx) (v : Int32), RdC X tp e β → ¬ X.1 tp 4 = nI 0 → ∃ v1 X1, f_X7_takeCell_32 σ tp v X = some (v1, X1) ∧ CD X X1 tp e β := fun X v h hf => by
    obtain ⟨u, X1, p1, p2⟩ := num_d (x := nI 999) hp hm h hf
    unfold f_X7_takeCell_32
    simp only [litM]
    rw [p1, bnd2_k]
    by_cases q : v = nI 0
    · rw [if_pos q]; exact ⟨_, X1, rfl, p2⟩
    · rw [if_neg q]; exact ⟨_, X1, rfl, p2⟩
  unfold f_X7_takeCell
  simp only [litM]
  rw [grd_t t0, e1, Option.bind_some, e2, Option.bind_some]
  cases b1 with
  | true =>
    rw [if_neg (by decide)]
    obtain ⟨X1, p1, p2⟩ := pass_d (v := nI 9999) hp hm h
    exact ⟨_, X1, by rw [p1, bnd2_k], p2⟩
  | false =>
    rw [if_pos bI_f]
    cases b2 with
    | false => rw [if_pos bI_f]; exact e32 X _ h hf
    | true =>
      rw [if_neg (by decide)]
      obtain ⟨X1, p1, p2⟩ := c_step hp hm h
      obtain ⟨v, X2, p3, p4⟩ := e32 X1 (bI true) p2.2.2.2 (by rw [p2.2.2.1]; exact hf)
      exact ⟨v, X2, by rw [p1, Option.bind_some, p3], p2.trans p4⟩
theorem dem_d {σ τ : Sh} {X : Mx} {tp m e : Nat} {β : Nat → Nat} {x : Int32} (hp : tpOK σ tp) (hm : mdOK τ m) (h : RdC X tp e β) (hf : ¬ X.1 tp 4 = nI 0) : ∃ v X1, f_X7_takeDemanded σ X tp x = some (v, X1) ∧ CD X X1 tp e β := by
  have t0 := hp.1
  obtain ⟨v, X1, p1, p2⟩ := num_d (x := nI 9999) hp hm h hf
  refine ⟨v, X1, ?_, p2⟩
  unfold f_X7_takeDemanded
  simp only [litM]
  rw [grd_t t0, ldI_t t0, p1, bnd2_k, ldI_t t0, if_neg (by rw [p2.2.2.1]; exact hf)]
