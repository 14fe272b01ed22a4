/-- what a new block at a .. b leaves of the shape and of the memory -/
def NwF (σ σ1 : Sh) (X X1 : Mx) (a b : Nat) : Prop := (∀ q, (q < a ∨ b < q) → shK σ1 q = shK σ q ∧ shN σ1 q = shN σ q ∧ ∀ j, shR σ1 q j = shR σ q j) ∧ (∀ q, (q < a ∨ b < q) → X1.1 q = X.1 q) ∧ (∀ q, q ∈ shL σ1 ↔ q ∈ shL σ ∨ (a < q ∧ q ≤ b))
theorem tab_new {σ : Sh} {X : Mx} {a : Nat} (hK : shK σ a = 5) : ∃ σ1 X1, f_X6_init σ X (a + 1) a = some ((), σ1, X1, 3, 198) ∧ tabOK σ1 a ∧ NwF σ σ1 X X1 a (a + 3) ∧ X1.1 a = X.1 a ∧ (∀ j, j < 180 → X1.1 (a + 3) j = nI 9999) := by
  have h1 : shK (shNew σ (a + 1) 10 9) a = 5 := by rw [shK_n, if_neg (by omega)]; exact hK
  have h2 : shK (shNew (sR (shNew σ (a + 1) 10 9) a 2 (some (a + 1))) (a + 1 + 1) 10 9) a = 5 := by rw [shK_n, if_neg (by omega), shK_s]; exact h1
  have h3 : shK (shNew (sR (shNew (sR (shNew σ (a + 1) 10 9) a 2 (some (a + 1))) (a + 1 + 1) 10 9) a 3 (some (a + 1 + 1))) (a + 1 + 1 + 1) 10 180) a = 5 := by rw [shK_n, if_neg (by omega), shK_s]; exact h2
  obtain ⟨σ1, hσ⟩ : ∃ τ, τ = sR (shNew (sR (shNew (sR (shNew σ (a + 1) 10 9) a 2 (some (a + 1))) (a + 1 + 1) 10 9) a 3 (some (a + 1 + 1))) (a + 1 + 1 + 1) 10 180) a 4 (some (a + 1 + 1 + 1)) := ⟨_, rfl⟩
  have hk : ∀ q, shK σ1 q = if q = a + 3 then 10 else if q = a + 2 then 10 else if q = a + 1 then 10 else shK σ q := fun q => by rw [hσ]; rfl
  have hn : ∀ q, shN σ1 q = if q = a + 3 then 180 else if q = a + 2 then 9 else if q = a + 1 then 9 else shN σ q := fun q => by rw [hσ]; rfl
  have hr : ∀ q j, shR σ1 q j = if q = a ∧ j = 4 then some (a + 3) else if q = a + 3 then none else if q = a ∧ j = 3 then some (a + 2) else if q = a + 2 then none else if q = a ∧ j = 2 then some (a + 1) else if q = a + 1 then none else shR σ q j := fun q j => by rw [hσ]; rfl
  have hl : shL σ1 = ((shL σ ++ [a + 1]) ++ [a + 2]) ++ [a + 3] := by rw [hσ]; rfl
  have hK1 : shK σ1 a = 5 := by rw [hk, if_neg (by omega), if_neg (by omega), if_neg (by omega)]; exact hK
  have hr4 : shR σ1 a 4 = some (a + 1 + 1 + 1) := by rw [hr, if_pos ⟨rfl, rfl⟩]
  have k3 : shK σ1 (a + 1 + 1 + 1) = 10 := by rw [hk, if_pos rfl]
  have n3 : shN σ1 (a + 1 + 1 + 1) = 180 := by rw [hn, if_pos rfl]
  have hf := s_fill (σ := σ1) (X := xNew (xNew (xNew X (a + 1)) (a + 1 + 1)) (a + 1 + 1 + 1)) (v := nI 9999) k3 (by rw [n3]; omega)
  refine ⟨σ1, wF (xNew (xNew (xNew X (a + 1)) (a + 1 + 1)) (a + 1 + 1 + 1)) (a + 1 + 1 + 1) (fun j => if j < shN σ1 (a + 1 + 1 + 1) then nI 9999 else (xNew (xNew (xNew X (a + 1)) (a + 1 + 1)) (a + 1 + 1 + 1)).1 (a + 1 + 1 + 1) j), ?_, ⟨hK1, ?_, ?_, ?_, ?_, ?_, ?_, ?_, ?_, ?_⟩, ⟨fun q hq => ⟨?_, ?_, fun j => ?_⟩, fun q hq => ?_, fun q => ?_⟩, ?_, fun j hj => ?_⟩
  rotate_left
  · rw [hr, if_neg (by omega), if_neg (by omega), if_neg (by omega), if_neg (by omega), if_pos ⟨rfl, rfl⟩]
  · rw [hr, if_neg (by omega), if_neg (by omega), if_pos ⟨rfl, rfl⟩]
  · exact hr4
  · rw [hk, if_neg (by omega), if_neg (by omega), if_pos rfl]
  · rw [hn, if_neg (by omega), if_neg (by omega), if_pos rfl]
  · rw [hk, if_neg (by omega), if_pos rfl]
  · rw [hn, if_neg (by omega), if_pos rfl]
  · exact k3
  · exact n3
  · rw [hk, if_neg (by omega), if_neg (by omega), if_neg (by omega)]
  · rw [hn, if_neg (by omega), if_neg (by omega), if_neg (by omega)]
  · rw [hr, if_neg (by omega), if_neg (by omega), if_neg (by omega), if_neg (by omega), if_neg (by omega), if_neg (by omega)]
  · show (wF _ (a + 1 + 1 + 1) _).1 q = _
    rw [wF_fn (by omega), xN_ne (by omega), xN_ne (by omega), xN_ne (by omega)]
  · rw [hl]
    by_cases hq : q ∈ shL σ
    · simp [hq]
    · simp only [List.mem_append, List.mem_singleton, hq, false_or]; omega
  · rw [wF_fn (by omega), xN_ne (by omega), xN_ne (by omega), xN_ne (by omega)]
  · rw [show a + 3 = a + 1 + 1 + 1 from rfl, wF_at, n3, if_pos hj]
  · unfold f_X6_init
    rw [grd_t hK]
    simp only [litM]
    rw [nwA_t (by omega), stR_t h1, nwA_t (by omega), stR_t h2, nwA_t (by omega), stR_t h3, ← hσ]
    simp only [ldR, hK1, hr4, if_true, Option.bind_some]
    rw [hf]
    rfl
theorem NwF.trans {σ σ1 σ2 : Sh} {X X1 X2 : Mx} {a b c : Nat} (h : NwF σ σ1 X X1 a b) (k : NwF σ1 σ2 X1 X2 (b + 1) c) (k' : b + 1 ∈ shL σ1 ∨ True) (hab : a ≤ b) (hbc : b + 1 ≤ c) : (∀ q, (q < a ∨ c < q) → shK σ2 q = shK σ q ∧ shN σ2 q = shN σ q ∧ ∀ j, shR σ2 q j = shR σ q j) ∧ (∀ q, (q < a ∨ c < q) → X2.1 q = X.1 q) := by
  refine ⟨fun q hq => ?_, fun q hq => (k.2.1 q (by omega)).trans (h.2.1 q (by omega))⟩
  obtain ⟨a1, a2, a3⟩ := h.1 q (by omega)
  obtain ⟨b1, b2, b3⟩ := k.1 q (by omega)
  exact ⟨b1.trans a1, b2.trans a2, fun j => (b3 j).trans (a3 j)⟩
/-- a Table made and put into a field -/
theorem tab_put {σ : Sh} {X : Mx} {s t f ci : Nat} (hs : shK σ s = ci) (hst : s < t) : ∃ σ1 X1, (∀ {ρ : Type} (cont : Sh → Mx → Nat → Nat → Option (Hr ρ)), nwO σ X t 5 (fun σ1 X2 => bndH (f_X6_init σ1 X2 (t + 1) t) fun _ σ3 X3 c3 d3 => stR σ3 ci s f t fun σ4 => cont σ4 X3 c3 d3) = adc 1 5 (adc 3 198 (cont σ1 X1 3 198))) ∧ tabOK σ1 t ∧ shR σ1 s f = some t ∧ (∀ q, (q < t ∨ t + 3 < q) → shK σ1 q = shK σ q ∧ shN σ1 q = shN σ q ∧ ∀ j, ¬ (q = s ∧ j = f) → shR σ1 q j = shR σ q j) ∧ (∀ q, (q < t ∨ t + 3 < q) → X1.1 q = X.1 q) ∧ (∀ q, q ∈ shL σ1 ↔ q ∈ shL σ ∨ (t ≤ q ∧ q ≤ t + 3)) ∧ X1.1 t 0 = nI 0 ∧ X1.1 t 1 = nI 0 ∧ (∀ j, j < 180 → X1.1 (t + 3) j = nI 9999) := by
  have hK : shK (shNew σ t 5 0) t = 5 := by rw [shK_n, if_pos rfl]
  obtain ⟨σ1, X1, e, o1, ⟨n1, n2, n3⟩, x0, x3⟩ := tab_new (X := xNew X t) hK
  have hs1 : shK σ1 s = ci := by rw [(n1 s (by omega)).1, shK_n, if_neg (by omega)]; exact hs
  refine ⟨sR σ1 s f (some t), X1, fun cont => ?_, o1.ext (fun q q1 q2 => ⟨rfl, rfl, fun j => by rw [shR_s, if_neg (by omega)]⟩), by rw [shR_s, if_pos ⟨rfl, rfl⟩], fun q hq => ⟨?_, ?_, fun j hj => ?_⟩, fun q hq => ?_, fun q => ?_, ?_, ?_, x3⟩
  · show adc 1 5 (bndH (f_X6_init (shNew σ t 5 0) (xNew X t) (t + 1) t) fun _ σ3 X3 c3 d3 => stR σ3 ci s f t fun σ4 => cont σ4 X3 c3 d3) = _
    rw [e, bndH_s, stR_t hs1]
  · rw [shK_s, (n1 q hq).1, shK_n, if_neg (by omega)]
  · rw [shN_s, (n1 q hq).2.1, shN_n, if_neg (by omega)]
  · rw [shR_s, if_neg hj, (n1 q hq).2.2, shR_n, if_neg (by omega)]
  · rw [n2 q hq, xN_ne (by omega)]
  · rw [shL_s, n3, shL_n]
    by_cases hq : q ∈ shL σ
    · simp [hq]
    · simp only [List.mem_append, List.mem_singleton, hq, false_or]; omega
  · rw [x0, xN_at]; rfl
  · rw [x0, xN_at]; rfl
/-- an array of numbers made and put into a field -/
theorem arr_put {σ : Sh} {X : Mx} {s t f ci n : Nat} (hn : n ≤ 60000) (hs : shK σ s = ci) (hst : s < t) : ∃ σ1 X1, (∀ {ρ : Type} (cont : Sh → Mx → Option (Hr ρ)), nwA σ X t 10 (nI n) (fun σ1 X2 => stR σ1 ci s f t fun σ4 => cont σ4 X2) = adc 1 n (cont σ1 X1)) ∧ shK σ1 t = 10 ∧ shN σ1 t = n ∧ shR σ1 s f = some t ∧ (∀ q, q ≠ t → shK σ1 q = shK σ q ∧ shN σ1 q = shN σ q ∧ ∀ j, ¬ (q = s ∧ j = f) → shR σ1 q j = shR σ q j) ∧ (∀ q, q ≠ t → X1.1 q = X.1 q) ∧ (∀ q, q ∈ shL σ1 ↔ q ∈ shL σ ∨ q = t) ∧ (∀ j, X1.1 t j = nI 0) := by
  have hs1 : shK (shNew σ t 10 n) s = ci := by rw [shK_n, if_neg (by omega)]; exact hs
  refine ⟨sR (shNew σ t 10 n) s f (some t), xNew X t, fun cont => ?_, by rw [shK_s, shK_n, if_pos rfl], by rw [shN_s, shN_n, if_pos rfl], by rw [shR_s, if_pos ⟨rfl, rfl⟩], fun q hq => ⟨by rw [shK_s, shK_n, if_neg hq], by rw [shN_s, shN_n, if_neg hq], fun j hj => by rw [shR_s, if_neg hj, shR_n, if_neg hq]⟩, fun q hq => xN_ne hq, fun q => by rw [shL_s, shL_n]; simp only [List.mem_append, List.mem_singleton], fun j => xN_at⟩
  rw [nwA_t hn, stR_t hs1]
