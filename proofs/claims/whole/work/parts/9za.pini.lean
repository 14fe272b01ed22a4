/-! ===== the objects made at the start (written by gen_new.py) ===== -/
/-- field f of s is t now, and t .. b are made: nothing else changed -/
def PutF (σ σ1 : Sh) (X X1 : Mx) (s f t b : Nat) : Prop := shR σ1 s f = some t ∧ (∀ q, (q < t ∨ b < q) → shK σ1 q = shK σ q ∧ shN σ1 q = shN σ q ∧ ∀ j, ¬ (q = s ∧ j = f) → shR σ1 q j = shR σ q j) ∧ (∀ q, (q < t ∨ b < q) → X1.1 q = X.1 q) ∧ (∀ q, q ∈ shL σ1 ↔ q ∈ shL σ ∨ (t ≤ q ∧ q ≤ b))
theorem arr_putK {σ : Sh} {X : Mx} {s t f ci n kd : Nat} (hn : n ≤ 60000) (hs : shK σ s = ci) (hst : s < t) : ∃ σ1 X1, (∀ {ρ : Type} (cont : Sh → Mx → Option (Hr ρ)), nwA σ X t kd (nI n) (fun σ1 X2 => stR σ1 ci s f t fun σ4 => cont σ4 X2) = adc 1 n (cont σ1 X1)) ∧ shK σ1 t = kd ∧ shN σ1 t = n ∧ PutF σ σ1 X X1 s f t t ∧ (∀ j, X1.1 t j = nI 0) ∧ (∀ j, shR σ1 t j = none) := by
  have hs1 : shK (shNew σ t kd n) s = ci := by rw [shK_n, if_neg (by omega)]; exact hs
  refine ⟨sR (shNew σ t kd n) s f (some t), xNew X t, fun cont => ?_, ?_, ?_, ⟨?_, fun q hq => ⟨?_, ?_, fun j hj => ?_⟩, fun q hq => ?_, fun q => ?_⟩, fun j => ?_, fun j => ?_⟩
  · rw [nwA_t hn, stR_t hs1]
  · rw [shK_s, shK_n, if_pos rfl]
  · rw [shN_s, shN_n, if_pos rfl]
  · rw [shR_s, if_pos ⟨rfl, rfl⟩]
  · rw [shK_s, shK_n, if_neg (by omega)]
  · rw [shN_s, shN_n, if_neg (by omega)]
  · rw [shR_s, if_neg hj, shR_n, if_neg (by omega)]
  · exact xN_ne (by omega)
  · rw [shL_s, shL_n, List.mem_append, List.mem_singleton]
    constructor
    · rintro (h | h)
      · exact Or.inl h
      · exact Or.inr (by omega)
    · rintro (h | h)
      · exact Or.inl h
      · exact Or.inr (by omega)
  · exact xN_at
  · rw [shR_s, if_neg (by omega), shR_n, if_pos rfl]
/-- an object of its kind made and initialised, put into a field -/
theorem obj_put {σ : Sh} {X : Mx} {s t f ci kd n dn : Nat} {fi : Sh → Mx → Nat → Nat → Option (Hr Unit)} {P : Sh → Mx → Prop} (hI : ∀ σ X, shK σ t = kd → (∀ j, X.1 t j = nI 0) → ∃ σ1 X1, fi σ X (t + 1) t = some ((), σ1, X1, n, dn) ∧ NwF σ σ1 X X1 t (t + n) ∧ P σ1 X1) (hs : shK σ s = ci) (hst : s < t) : ∃ σ1 X1, (∀ {ρ : Type} (cont : Sh → Mx → Nat → Nat → Option (Hr ρ)), nwO σ X t kd (fun σ1 X2 => bndH (fi σ1 X2 (t + 1) t) fun _ σ3 X3 c3 d3 => stR σ3 ci s f t fun σ4 => cont σ4 X3 c3 d3) = adc 1 (fN kd) (adc n dn (cont σ1 X1 n dn))) ∧ PutF σ σ1 X X1 s f t (t + n) ∧ ∃ σ0, P σ0 X1 ∧ SEq σ0 σ1 t (t + n) := by
  obtain ⟨σ0, X1, e1, ⟨k1, x1, l1⟩, hP⟩ := hI (shNew σ t kd 0) (xNew X t) (by rw [shK_n, if_pos rfl]) (fun j => xN_at)
  have hs1 : shK σ0 s = ci := by rw [(k1 s (by omega)).1, shK_n, if_neg (by omega)]; exact hs
  refine ⟨sR σ0 s f (some t), X1, fun cont => ?_, ⟨?_, fun q hq => ⟨?_, ?_, fun j hj => ?_⟩, fun q hq => ?_, fun q => ?_⟩, σ0, hP, fun q h1 h2 => ⟨rfl, rfl, fun j => ?_⟩⟩
  · refine congrArg (adc 1 (fN kd)) ?_
    show bndH (fi (shNew σ t kd 0) (xNew X t) (t + 1) t) _ = _
    rw [e1, bndH_s, stR_t hs1]
  · rw [shR_s, if_pos ⟨rfl, rfl⟩]
  · rw [shK_s, (k1 q (by omega)).1, shK_n, if_neg (by omega)]
  · rw [shN_s, (k1 q (by omega)).2.1, shN_n, if_neg (by omega)]
  · rw [shR_s, if_neg hj, (k1 q (by omega)).2.2, shR_n, if_neg (by omega)]
  · rw [x1 q (by omega), xN_ne (by omega)]
  · rw [shL_s, l1, shL_n, List.mem_append, List.mem_singleton]
    constructor
    · rintro ((h | h) | h)
      · exact Or.inl h
      · exact Or.inr (by omega)
      · exact Or.inr (by omega)
    · rintro (h | h)
      · exact Or.inl (Or.inl h)
      · by_cases e : q = t
        · exact Or.inl (Or.inr e)
        · exact Or.inr (by omega)
  · rw [shR_s, if_neg (by omega)]
theorem tab_putK {σ : Sh} {X : Mx} {s t f ci : Nat} (hs : shK σ s = ci) (hst : s < t) : ∃ σ1 X1, (∀ {ρ : Type} (cont : Sh → Mx → Nat → Nat → Option (Hr ρ)), nwO σ X t 5 (fun σ1 X2 => bndH (f_X6_init σ1 X2 (t + 1) t) fun _ σ3 X3 c3 d3 => stR σ3 ci s f t fun σ4 => cont σ4 X3 c3 d3) = adc 1 5 (adc 3 198 (cont σ1 X1 3 198))) ∧ PutF σ σ1 X X1 s f t (t + 3) ∧ tabOK σ1 t := by
  obtain ⟨σ1, X1, e1, o1, r1, k1, x1, l1, -⟩ := tab_put (σ := σ) (X := X) (s := s) (t := t) (f := f) (ci := ci) hs hst
  exact ⟨σ1, X1, e1, ⟨r1, k1, x1, l1⟩, o1⟩
def PSt (s : Nat) (σ : Sh) (X : Mx) : Prop := stOK σ s (s + 5) (s + 9) ∧ (∀ j, X.1 s j = nI 0) ∧ (∀ t, (t = s + 1 ∨ t = s + 5 ∨ t = s + 9) → X.1 t 0 = nI 0 ∧ X.1 t 1 = nI 0 ∧ ∀ j, j < 180 → X.1 (t + 3) j = nI 9999) ∧ (∀ j, j < 316 → X.1 (s + 16) j = -(nI 1))
theorem st_new' {s : Nat} (σ : Sh) (X : Mx) (hK : shK σ s = 4) (hx : ∀ j, X.1 s j = nI 0) : ∃ σ1 X1, f_X5_init σ X (s + 1) s = some ((), σ1, X1, 16, 937) ∧ NwF σ σ1 X X1 s (s + 16) ∧ PSt s σ1 X1 := by
  obtain ⟨σ1, X1, e, o, w, x, t, c⟩ := st_new (X := X) hK
  exact ⟨σ1, X1, e, w, o, fun j => by rw [x]; exact hx j, t, c⟩
theorem SEq.trans {σ σ1 σ2 : Sh} {lo hi : Nat} (h : SEq σ σ1 lo hi) (k : SEq σ1 σ2 lo hi) : SEq σ σ2 lo hi := fun q a b => ⟨(k q a b).1.trans (h q a b).1, (k q a b).2.1.trans (h q a b).2.1, fun j => ((k q a b).2.2 j).trans ((h q a b).2.2 j)⟩
theorem SEq.refl {σ : Sh} {lo hi : Nat} : SEq σ σ lo hi := fun _ _ _ => ⟨rfl, rfl, fun _ => rfl⟩
theorem PutF.seq {σ σ1 : Sh} {X X1 : Mx} {s f t b lo hi : Nat} (p : PutF σ σ1 X X1 s f t b) (h1 : s < lo) (h2 : hi < t) : SEq σ σ1 lo hi := fun q a c => ⟨(p.2.1 q (by omega)).1, (p.2.1 q (by omega)).2.1, fun j => (p.2.1 q (by omega)).2.2 j (by omega)⟩
theorem PutF.fld {σ σ1 : Sh} {X X1 : Mx} {s f t b j : Nat} (p : PutF σ σ1 X X1 s f t b) (h1 : j ≠ f) (h2 : s < t) : shR σ1 s j = shR σ s j := (p.2.1 s (by omega)).2.2 j (by omega)
theorem PutF.knd {σ σ1 : Sh} {X X1 : Mx} {s f t b : Nat} (p : PutF σ σ1 X X1 s f t b) (h2 : s < t) : shK σ1 s = shK σ s := (p.2.1 s (by omega)).1
theorem PutF.mem {σ σ1 : Sh} {X X1 : Mx} {s f t b q : Nat} (p : PutF σ σ1 X X1 s f t b) (h2 : q < t) : X1.1 q = X.1 q := p.2.2.1 q (by omega)
def BuF (σ σ1 : Sh) (X X1 : Mx) (s b : Nat) : Prop := (∀ q, (q ≤ s ∨ b < q) → shK σ1 q = shK σ q ∧ shN σ1 q = shN σ q ∧ (q ≠ s → ∀ j, shR σ1 q j = shR σ q j)) ∧ (∀ q, (q < s ∨ b < q) → X1.1 q = X.1 q) ∧ (∀ q, q ∈ shL σ1 ↔ q ∈ shL σ ∨ (s < q ∧ q ≤ b))
theorem BuF.start {σ : Sh} {X : Mx} {s : Nat} : BuF σ σ X X s s := ⟨fun _ _ => ⟨rfl, rfl, fun _ _ => rfl⟩, fun _ _ => rfl, fun q => ⟨Or.inl, fun h => h.elim id (fun h => by omega)⟩⟩
theorem BuF.put {σ σ1 σ2 : Sh} {X X1 X2 : Mx} {s f b t b2 : Nat} (h : BuF σ σ1 X X1 s b) (p : PutF σ1 σ2 X1 X2 s f t b2) (ht : t = b + 1) (hb : t ≤ b2) (hs : s ≤ b) : BuF σ σ2 X X2 s b2 := by
  subst ht
  refine ⟨fun q hq => ?_, fun q hq => ?_, fun q => ?_⟩
  · obtain ⟨a1, a2, a3⟩ := h.1 q (by omega)
    obtain ⟨c1, c2, c3⟩ := p.2.1 q (by omega)
    exact ⟨c1.trans a1, c2.trans a2, fun hne j => (c3 j (by omega)).trans (a3 hne j)⟩
  · rw [p.2.2.1 q (by omega), h.2.1 q (by omega)]
  · rw [p.2.2.2 q, h.2.2 q]
    constructor
    · rintro ((h | h) | h)
      · exact Or.inl h
      · exact Or.inr (by omega)
      · exact Or.inr (by omega)
    · rintro (h | h)
      · exact Or.inl (Or.inl h)
      · by_cases e : q ≤ b
        · exact Or.inl (Or.inr (by omega))
        · exact Or.inr (by omega)
theorem BuF.nwF {σ σ1 : Sh} {X X1 : Mx} {s b : Nat} (h : BuF σ σ1 X X1 s b) (hs : s ≤ b) : NwF σ σ1 X X1 s b := ⟨fun q hq => ⟨(h.1 q (by omega)).1, (h.1 q (by omega)).2.1, (h.1 q (by omega)).2.2 (by omega)⟩, fun q hq => h.2.1 q (by omega), h.2.2⟩
theorem tpOK.ext {σ σ1 : Sh} {t : Nat} (h : tpOK σ t) (e : SEq σ σ1 t (t + 18)) : tpOK σ1 t := by
  obtain ⟨h1, h2, h3, h4, h5, h6⟩ := h
  have e0 := e t (by omega) (by omega)
  have e1 := e (t + 1) (by omega) (by omega)
  exact ⟨e0.1.trans h1, (e0.2.2 0).trans h2, (e0.2.2 2).trans h3, e1.1.trans h4, e1.2.1.trans h5, h6.ext (e.sub (by omega) (by omega))⟩
theorem acOK.ext {σ σ1 : Sh} {t : Nat} (h : acOK σ t) (e : SEq σ σ1 t (t + 1)) : acOK σ1 t := by
  obtain ⟨h1, h2, h3, h4⟩ := h
  have e0 := e t (by omega) (by omega)
  have e1 := e (t + 1) (by omega) (by omega)
  exact ⟨e0.1.trans h1, (e0.2.2 0).trans h2, e1.1.trans h3, e1.2.1.trans h4⟩
theorem snOK.ext {σ σ1 : Sh} {t : Nat} (h : snOK σ t) (e : SEq σ σ1 t (t + 3)) : snOK σ1 t := by
  obtain ⟨h1, h2, h3, h4, h5, h6, h7, h8, h9, h10⟩ := h
  have e0 := e t (by omega) (by omega)
  have e1 := e (t + 1) (by omega) (by omega)
  have e2 := e (t + 2) (by omega) (by omega)
  have e3 := e (t + 3) (by omega) (by omega)
  exact ⟨e0.1.trans h1, (e0.2.2 1).trans h2, (e0.2.2 2).trans h3, (e0.2.2 3).trans h4, e1.1.trans h5, e1.2.1.trans h6, e2.1.trans h7, e2.2.1.trans h8, e3.1.trans h9, e3.2.1.trans h10⟩
theorem quOK.ext {σ σ1 : Sh} {q : Nat} (h : quOK σ q) (e : SEq σ σ1 q (q + 30)) : quOK σ1 q := by
  obtain ⟨q0, q1, q2, q3, q4, q5, qs, qg, k28, n28, k29, n29, k30, n30⟩ := h
  have e0 := e q (by omega) (by omega)
  have e1 := e (q + 28) (by omega) (by omega)
  have e2 := e (q + 29) (by omega) (by omega)
  have e3 := e (q + 30) (by omega) (by omega)
  exact ⟨e0.1.trans q0, (e0.2.2 0).trans q1, (e0.2.2 1).trans q2, (e0.2.2 2).trans q3, (e0.2.2 3).trans q4, (e0.2.2 4).trans q5, qs.ext (e.sub (by omega) (by omega)), qg.ext (e.sub (by omega) (by omega)), e1.1.trans k28, e1.2.1.trans n28, e2.1.trans k29, e2.2.1.trans n29, e3.1.trans k30, e3.2.1.trans n30⟩
def PMg (s : Nat) (σ : Sh) (X : Mx) : Prop := mgOK σ s
theorem mg_new {s : Nat} (σ : Sh) (X : Mx) (hK : shK σ s = 1) (hx : ∀ j, X.1 s j = nI 0) : ∃ σ1 X1, f_X2_init σ X (s + 1) s = some ((), σ1, X1, 9, 1340) ∧ NwF σ σ1 X X1 s (s + 9) ∧ PMg s σ1 X1 := by
  obtain ⟨σ1, X1, e1, p1, o1⟩ := tab_putK (σ := σ) (X := X) (s := s) (t := s + 1) (f := 0) (ci := 1) hK (by omega)
  have K1 : shK σ1 s = 1 := (p1.knd (by omega)).trans hK
  obtain ⟨σ2, X2, e2, q2, n2, p2, x2, w2⟩ := arr_putK (σ := σ1) (X := X1) (s := s) (t := s + 1 + 1 + 3) (f := 1) (ci := 1) (n := 180) (kd := 10) (by omega) K1 (by omega)
  have K2 : shK σ2 s = 1 := (p2.knd (by omega)).trans K1
  obtain ⟨σ3, X3, e3, q3, n3, p3, x3, w3⟩ := arr_putK (σ := σ2) (X := X2) (s := s) (t := s + 1 + 1 + 3 + 1) (f := 4) (ci := 1) (n := 316) (kd := 10) (by omega) K2 (by omega)
  have K3 : shK σ3 s = 1 := (p3.knd (by omega)).trans K2
  obtain ⟨σ4, X4, e4, q4, n4, p4, x4, w4⟩ := arr_putK (σ := σ3) (X := X3) (s := s) (t := s + 1 + 1 + 3 + 1 + 1) (f := 5) (ci := 1) (n := 316) (kd := 10) (by omega) K3 (by omega)
  have K4 : shK σ4 s = 1 := (p4.knd (by omega)).trans K3
  obtain ⟨σ5, X5, e5, q5, n5, p5, x5, w5⟩ := arr_putK (σ := σ4) (X := X4) (s := s) (t := s + 1 + 1 + 3 + 1 + 1 + 1) (f := 6) (ci := 1) (n := 316) (kd := 10) (by omega) K4 (by omega)
  have K5 : shK σ5 s = 1 := (p5.knd (by omega)).trans K4
  obtain ⟨σ6, X6, e6, q6, n6, p6, x6, w6⟩ := arr_putK (σ := σ5) (X := X5) (s := s) (t := s + 1 + 1 + 3 + 1 + 1 + 1 + 1) (f := 7) (ci := 1) (n := 9) (kd := 10) (by omega) K5 (by omega)
  have K6 : shK σ6 s = 1 := (p6.knd (by omega)).trans K5
  refine ⟨σ6, X6, ?_, ((((((BuF.start.put p1 (by omega) (by omega) (by omega)).put p2 (by omega) (by omega) (by omega)).put p3 (by omega) (by omega) (by omega)).put p4 (by omega) (by omega) (by omega)).put p5 (by omega) (by omega) (by omega)).put p6 (by omega) (by omega) (by omega)).nwF (by omega), ⟨K6, (by rw [p6.fld (by omega) (by omega), p5.fld (by omega) (by omega), p4.fld (by omega) (by omega), p3.fld (by omega) (by omega), p2.fld (by omega) (by omega)]; exact p1.1), (by rw [p6.fld (by omega) (by omega), p5.fld (by omega) (by omega), p4.fld (by omega) (by omega), p3.fld (by omega) (by omega)]; exact p2.1), (by rw [p6.fld (by omega) (by omega), p5.fld (by omega) (by omega), p4.fld (by omega) (by omega)]; exact p3.1), (by rw [p6.fld (by omega) (by omega), p5.fld (by omega) (by omega)]; exact p4.1), (by rw [p6.fld (by omega) (by omega)]; exact p5.1), p6.1, o1.ext (((((p2.seq (by omega) (by omega) : SEq σ1 σ2 (s + 1) (s + 1 + 3)).trans (p3.seq (by omega) (by omega))).trans (p4.seq (by omega) (by omega))).trans (p5.seq (by omega) (by omega))).trans (p6.seq (by omega) (by omega))), (((((((p3.seq (by omega) (by omega) : SEq σ2 σ3 (s + 5) (s + 5)).trans (p4.seq (by omega) (by omega))).trans (p5.seq (by omega) (by omega))).trans (p6.seq (by omega) (by omega)))) (s + 5) (Nat.le_refl _) (Nat.le_refl _)).1.trans q2), (((((((p3.seq (by omega) (by omega) : SEq σ2 σ3 (s + 5) (s + 5)).trans (p4.seq (by omega) (by omega))).trans (p5.seq (by omega) (by omega))).trans (p6.seq (by omega) (by omega)))) (s + 5) (Nat.le_refl _) (Nat.le_refl _)).2.1.trans n2), ((((((p4.seq (by omega) (by omega) : SEq σ3 σ4 (s + 6) (s + 6)).trans (p5.seq (by omega) (by omega))).trans (p6.seq (by omega) (by omega)))) (s + 6) (Nat.le_refl _) (Nat.le_refl _)).1.trans q3), ((((((p4.seq (by omega) (by omega) : SEq σ3 σ4 (s + 6) (s + 6)).trans (p5.seq (by omega) (by omega))).trans (p6.seq (by omega) (by omega)))) (s + 6) (Nat.le_refl _) (Nat.le_refl _)).2.1.trans n3), (((((p5.seq (by omega) (by omega) : SEq σ4 σ5 (s + 7) (s + 7)).trans (p6.seq (by omega) (by omega)))) (s + 7) (Nat.le_refl _) (Nat.le_refl _)).1.trans q4), (((((p5.seq (by omega) (by omega) : SEq σ4 σ5 (s + 7) (s + 7)).trans (p6.seq (by omega) (by omega)))) (s + 7) (Nat.le_refl _) (Nat.le_refl _)).2.1.trans n4), ((((p6.seq (by omega) (by omega) : SEq σ5 σ6 (s + 8) (s + 8))) (s + 8) (Nat.le_refl _) (Nat.le_refl _)).1.trans q5), ((((p6.seq (by omega) (by omega) : SEq σ5 σ6 (s + 8) (s + 8))) (s + 8) (Nat.le_refl _) (Nat.le_refl _)).2.1.trans n5), (((SEq.refl : SEq σ6 σ6 (s + 9) (s + 9)) (s + 9) (Nat.le_refl _) (Nat.le_refl _)).1.trans q6), (((SEq.refl : SEq σ6 σ6 (s + 9) (s + 9)) (s + 9) (Nat.le_refl _) (Nat.le_refl _)).2.1.trans n6)⟩⟩
  · unfold f_X2_init
    rw [grd_t hK]
    simp only [litM]
    rw [e1, e2, e3, e4, e5, e6]
    rfl
def PAc (s : Nat) (σ : Sh) (X : Mx) : Prop := acOK σ s ∧ (∀ j, X.1 s j = nI 0) ∧ (∀ i, shR σ (s + 1) i = none)
theorem ac_new {s : Nat} (σ : Sh) (X : Mx) (hK : shK σ s = 0) (hx : ∀ j, X.1 s j = nI 0) : ∃ σ1 X1, f_X0_init σ X (s + 1) s = some ((), σ1, X1, 1, 31) ∧ NwF σ σ1 X X1 s (s + 1) ∧ PAc s σ1 X1 := by
  obtain ⟨σ1, X1, e1, q1, n1, p1, x1, w1⟩ := arr_putK (σ := σ) (X := X) (s := s) (t := s + 1) (f := 0) (ci := 0) (n := 31) (kd := 11) (by omega) hK (by omega)
  have K1 : shK σ1 s = 0 := (p1.knd (by omega)).trans hK
  refine ⟨σ1, X1, ?_, (BuF.start.put p1 (by omega) (by omega) (by omega)).nwF (by omega), ⟨K1, p1.1, q1, n1⟩, fun j => by rw [p1.mem (by omega)]; exact hx j, w1⟩
  · unfold f_X0_init
    rw [grd_t hK]
    simp only [litM]
    rw [e1]
    rfl
def PSn (s : Nat) (σ : Sh) (X : Mx) : Prop := snOK σ s ∧ (∀ j, X.1 s j = nI 0)
theorem sn_new {s : Nat} (σ : Sh) (X : Mx) (hK : shK σ s = 3) (hx : ∀ j, X.1 s j = nI 0) : ∃ σ1 X1, f_X4_init σ X (s + 1) s = some ((), σ1, X1, 3, 24) ∧ NwF σ σ1 X X1 s (s + 3) ∧ PSn s σ1 X1 := by
  obtain ⟨σ1, X1, e1, q1, n1, p1, x1, w1⟩ := arr_putK (σ := σ) (X := X) (s := s) (t := s + 1) (f := 1) (ci := 3) (n := 8) (kd := 10) (by omega) hK (by omega)
  have K1 : shK σ1 s = 3 := (p1.knd (by omega)).trans hK
  obtain ⟨σ2, X2, e2, q2, n2, p2, x2, w2⟩ := arr_putK (σ := σ1) (X := X1) (s := s) (t := s + 1 + 1) (f := 2) (ci := 3) (n := 8) (kd := 10) (by omega) K1 (by omega)
  have K2 : shK σ2 s = 3 := (p2.knd (by omega)).trans K1
  obtain ⟨σ3, X3, e3, q3, n3, p3, x3, w3⟩ := arr_putK (σ := σ2) (X := X2) (s := s) (t := s + 1 + 1 + 1) (f := 3) (ci := 3) (n := 8) (kd := 10) (by omega) K2 (by omega)
  have K3 : shK σ3 s = 3 := (p3.knd (by omega)).trans K2
  refine ⟨σ3, X3, ?_, (((BuF.start.put p1 (by omega) (by omega) (by omega)).put p2 (by omega) (by omega) (by omega)).put p3 (by omega) (by omega) (by omega)).nwF (by omega), ⟨K3, (by rw [p3.fld (by omega) (by omega), p2.fld (by omega) (by omega)]; exact p1.1), (by rw [p3.fld (by omega) (by omega)]; exact p2.1), p3.1, (((((p2.seq (by omega) (by omega) : SEq σ1 σ2 (s + 1) (s + 1)).trans (p3.seq (by omega) (by omega)))) (s + 1) (Nat.le_refl _) (Nat.le_refl _)).1.trans q1), (((((p2.seq (by omega) (by omega) : SEq σ1 σ2 (s + 1) (s + 1)).trans (p3.seq (by omega) (by omega)))) (s + 1) (Nat.le_refl _) (Nat.le_refl _)).2.1.trans n1), ((((p3.seq (by omega) (by omega) : SEq σ2 σ3 (s + 2) (s + 2))) (s + 2) (Nat.le_refl _) (Nat.le_refl _)).1.trans q2), ((((p3.seq (by omega) (by omega) : SEq σ2 σ3 (s + 2) (s + 2))) (s + 2) (Nat.le_refl _) (Nat.le_refl _)).2.1.trans n2), (((SEq.refl : SEq σ3 σ3 (s + 3) (s + 3)) (s + 3) (Nat.le_refl _) (Nat.le_refl _)).1.trans q3), (((SEq.refl : SEq σ3 σ3 (s + 3) (s + 3)) (s + 3) (Nat.le_refl _) (Nat.le_refl _)).2.1.trans n3)⟩, fun j => by rw [p3.mem (by omega), p2.mem (by omega), p1.mem (by omega)]; exact hx j⟩
  · unfold f_X4_init
    rw [grd_t hK]
    simp only [litM]
    rw [e1, e2, e3]
    rfl
def PTp (s : Nat) (σ : Sh) (X : Mx) : Prop := tpOK σ s ∧ X.1 s 1 = nI 0
theorem tp_new {s : Nat} (σ : Sh) (X : Mx) (hK : shK σ s = 6) (hx : ∀ j, X.1 s j = nI 0) : ∃ σ1 X1, f_X7_init σ X (s + 1) s = some ((), σ1, X1, 18, 1647) ∧ NwF σ σ1 X X1 s (s + 18) ∧ PTp s σ1 X1 := by
  obtain ⟨σ1, X1, e1, q1, n1, p1, x1, w1⟩ := arr_putK (σ := σ) (X := X) (s := s) (t := s + 1) (f := 0) (ci := 6) (n := 700) (kd := 9) (by omega) hK (by omega)
  have K1 : shK σ1 s = 6 := (p1.knd (by omega)).trans hK
  obtain ⟨σ2, X2, e2, p2, τ2, o2, g2⟩ := obj_put (σ := σ1) (X := X1) (s := s) (t := s + 1 + 1) (f := 2) (ci := 6) (P := PSt (s + 1 + 1)) (st_new' (s := s + 1 + 1)) K1 (by omega)
  have K2 : shK σ2 s = 6 := (p2.knd (by omega)).trans K1
  refine ⟨σ2, sI X2 s 3 (-(nI 1)), ?_, ?_, ⟨K2, (by rw [p2.fld (by omega) (by omega)]; exact p1.1), p2.1, ((((p2.seq (by omega) (by omega) : SEq σ1 σ2 (s + 1) (s + 1))) (s + 1) (Nat.le_refl _) (Nat.le_refl _)).1.trans q1), ((((p2.seq (by omega) (by omega) : SEq σ1 σ2 (s + 1) (s + 1))) (s + 1) (Nat.le_refl _) (Nat.le_refl _)).2.1.trans n1), o2.1.ext g2⟩, by rw [sI_nk (by omega), p2.mem (by omega), p1.mem (by omega)]; exact hx 1⟩
  · unfold f_X7_init
    rw [grd_t hK]
    simp only [litM]
    rw [e1, e2, stI_t K2]
    rfl
  · have w := ((BuF.start.put p1 (by omega) (by omega) (by omega)).put p2 (by omega) (by omega) (by omega)).nwF (show s ≤ s + 1 + 1 + 16 by omega)
    exact ⟨w.1, fun q hq => by rw [sI_ne (by omega)]; exact w.2.1 q hq, w.2.2⟩
def PQu (s : Nat) (σ : Sh) (X : Mx) : Prop := quOK σ s ∧ (∀ j, X.1 (s + 28) j = nI 0)
theorem qu_new {s : Nat} (σ : Sh) (X : Mx) (hK : shK σ s = 2) (hx : ∀ j, X.1 s j = nI 0) : ∃ σ1 X1, f_X3_init σ X (s + 1) s = some ((), σ1, X1, 30, 2333) ∧ NwF σ σ1 X X1 s (s + 30) ∧ PQu s σ1 X1 := by
  obtain ⟨σ1, X1, e1, p1, τ1, o1, g1⟩ := obj_put (σ := σ) (X := X) (s := s) (t := s + 1) (f := 0) (ci := 2) (P := PSt (s + 1)) (st_new' (s := s + 1)) hK (by omega)
  have K1 : shK σ1 s = 2 := (p1.knd (by omega)).trans hK
  obtain ⟨σ2, X2, e2, p2, τ2, o2, g2⟩ := obj_put (σ := σ1) (X := X1) (s := s) (t := s + 1 + 1 + 16) (f := 1) (ci := 2) (P := PMg (s + 1 + 1 + 16)) (mg_new (s := s + 1 + 1 + 16)) K1 (by omega)
  have K2 : shK σ2 s = 2 := (p2.knd (by omega)).trans K1
  obtain ⟨σ3, X3, e3, q3, n3, p3, x3, w3⟩ := arr_putK (σ := σ2) (X := X2) (s := s) (t := s + 1 + 1 + 16 + 1 + 9) (f := 2) (ci := 2) (n := 7) (kd := 10) (by omega) K2 (by omega)
  have K3 : shK σ3 s = 2 := (p3.knd (by omega)).trans K2
  obtain ⟨σ4, X4, e4, q4, n4, p4, x4, w4⟩ := arr_putK (σ := σ3) (X := X3) (s := s) (t := s + 1 + 1 + 16 + 1 + 9 + 1) (f := 3) (ci := 2) (n := 21) (kd := 10) (by omega) K3 (by omega)
  have K4 : shK σ4 s = 2 := (p4.knd (by omega)).trans K3
  obtain ⟨σ5, X5, e5, q5, n5, p5, x5, w5⟩ := arr_putK (σ := σ4) (X := X4) (s := s) (t := s + 1 + 1 + 16 + 1 + 9 + 1 + 1) (f := 4) (ci := 2) (n := 10) (kd := 10) (by omega) K4 (by omega)
  have K5 : shK σ5 s = 2 := (p5.knd (by omega)).trans K4
  refine ⟨σ5, X5, ?_, (((((BuF.start.put p1 (by omega) (by omega) (by omega)).put p2 (by omega) (by omega) (by omega)).put p3 (by omega) (by omega) (by omega)).put p4 (by omega) (by omega) (by omega)).put p5 (by omega) (by omega) (by omega)).nwF (by omega), ⟨K5, (by rw [p5.fld (by omega) (by omega), p4.fld (by omega) (by omega), p3.fld (by omega) (by omega), p2.fld (by omega) (by omega)]; exact p1.1), (by rw [p5.fld (by omega) (by omega), p4.fld (by omega) (by omega), p3.fld (by omega) (by omega)]; exact p2.1), (by rw [p5.fld (by omega) (by omega), p4.fld (by omega) (by omega)]; exact p3.1), (by rw [p5.fld (by omega) (by omega)]; exact p4.1), p5.1, (o1.1.ext g1).ext ((((p2.seq (by omega) (by omega) : SEq σ1 σ2 (s + 1) (s + 1 + 16)).trans (p3.seq (by omega) (by omega))).trans (p4.seq (by omega) (by omega))).trans (p5.seq (by omega) (by omega))), (mgOK.ext o2 g2).ext (((p3.seq (by omega) (by omega) : SEq σ2 σ3 (s + 1 + 1 + 16) (s + 1 + 1 + 16 + 9)).trans (p4.seq (by omega) (by omega))).trans (p5.seq (by omega) (by omega))), (((((p4.seq (by omega) (by omega) : SEq σ3 σ4 (s + 28) (s + 28)).trans (p5.seq (by omega) (by omega)))) (s + 28) (Nat.le_refl _) (Nat.le_refl _)).1.trans q3), (((((p4.seq (by omega) (by omega) : SEq σ3 σ4 (s + 28) (s + 28)).trans (p5.seq (by omega) (by omega)))) (s + 28) (Nat.le_refl _) (Nat.le_refl _)).2.1.trans n3), ((((p5.seq (by omega) (by omega) : SEq σ4 σ5 (s + 29) (s + 29))) (s + 29) (Nat.le_refl _) (Nat.le_refl _)).1.trans q4), ((((p5.seq (by omega) (by omega) : SEq σ4 σ5 (s + 29) (s + 29))) (s + 29) (Nat.le_refl _) (Nat.le_refl _)).2.1.trans n4), (((SEq.refl : SEq σ5 σ5 (s + 30) (s + 30)) (s + 30) (Nat.le_refl _) (Nat.le_refl _)).1.trans q5), (((SEq.refl : SEq σ5 σ5 (s + 30) (s + 30)) (s + 30) (Nat.le_refl _) (Nat.le_refl _)).2.1.trans n5)⟩, fun j => by rw [p5.mem (show s + 28 < _ by omega), p4.mem (show s + 28 < _ by omega)]; exact x3 j⟩
  · unfold f_X3_init
    rw [grd_t hK]
    simp only [litM]
    rw [e1, e2, e3, e4, e5]
    rfl
def PMd (s : Nat) (σ : Sh) (X : Mx) : Prop := mdOK σ s ∧ (∀ j, j ≠ 4 → X.1 s j = nI 0) ∧ X.1 s 4 = -(nI 1) ∧ (∀ j, j < 615 → X.1 (s + 3) j = nI 0) ∧ (∀ i, i < 316 → X.1 (s + 3) (615 + i) = -(nI 1)) ∧ (∀ j, X.1 (s + 2) j = nI 0)
set_option maxRecDepth 4000 in
theorem md_new {s : Nat} (σ : Sh) (X : Mx) (hK : shK σ s = 8) (hx : ∀ j, X.1 s j = nI 0) : ∃ σ1 X1, f_X10_init σ X (s + 1) s = some ((), σ1, X1, 17, 62135) ∧ NwF σ σ1 X X1 s (s + 17) ∧ PMd s σ1 X1 := by
  obtain ⟨σ1, X1, e1, q1, n1, p1, x1, w1⟩ := arr_putK (σ := σ) (X := X) (s := s) (t := s + 1) (f := 1) (ci := 8) (n := 700) (kd := 10) (by omega) hK (by omega)
  have K1 : shK σ1 s = 8 := (p1.knd (by omega)).trans hK
  obtain ⟨X1b, hX1b⟩ : ∃ X1b, X1b = sI X1 s 4 (-(nI 1)) := ⟨_, rfl⟩
  obtain ⟨σ2, X2, e2, q2, n2, p2, x2, w2⟩ := arr_putK (σ := σ1) (X := X1b) (s := s) (t := s + 1 + 1) (f := 5) (ci := 8) (n := 3) (kd := 10) (by omega) K1 (by omega)
  have K2 : shK σ2 s = 8 := (p2.knd (by omega)).trans K1
  obtain ⟨σ3, X3, e3, q3, n3, p3, x3, w3⟩ := arr_putK (σ := σ2) (X := X2) (s := s) (t := s + 1 + 1 + 1) (f := 17) (ci := 8) (n := 1862) (kd := 10) (by omega) K2 (by omega)
  have K3 : shK σ3 s = 8 := (p3.knd (by omega)).trans K2
  obtain ⟨σ4, X4, e4, q4, n4, p4, x4, w4⟩ := arr_putK (σ := σ3) (X := X3) (s := s) (t := s + 1 + 1 + 1 + 1) (f := 18) (ci := 8) (n := 27930) (kd := 10) (by omega) K3 (by omega)
  have K4 : shK σ4 s = 8 := (p4.knd (by omega)).trans K3
  obtain ⟨σ5, X5, e5, q5, n5, p5, x5, w5⟩ := arr_putK (σ := σ4) (X := X4) (s := s) (t := s + 1 + 1 + 1 + 1 + 1) (f := 23) (ci := 8) (n := 9) (kd := 10) (by omega) K4 (by omega)
  have K5 : shK σ5 s = 8 := (p5.knd (by omega)).trans K4
  obtain ⟨σ6, X6, e6, q6, n6, p6, x6, w6⟩ := arr_putK (σ := σ5) (X := X5) (s := s) (t := s + 1 + 1 + 1 + 1 + 1 + 1) (f := 24) (ci := 8) (n := 9) (kd := 10) (by omega) K5 (by omega)
  have K6 : shK σ6 s = 8 := (p6.knd (by omega)).trans K5
  obtain ⟨σ7, X7, e7, q7, n7, p7, x7, w7⟩ := arr_putK (σ := σ6) (X := X6) (s := s) (t := s + 1 + 1 + 1 + 1 + 1 + 1 + 1) (f := 25) (ci := 8) (n := 180) (kd := 10) (by omega) K6 (by omega)
  have K7 : shK σ7 s = 8 := (p7.knd (by omega)).trans K6
  obtain ⟨σ8, X8, e8, q8, n8, p8, x8, w8⟩ := arr_putK (σ := σ7) (X := X7) (s := s) (t := s + 1 + 1 + 1 + 1 + 1 + 1 + 1 + 1) (f := 26) (ci := 8) (n := 180) (kd := 10) (by omega) K7 (by omega)
  have K8 : shK σ8 s = 8 := (p8.knd (by omega)).trans K7
  obtain ⟨σ9, X9, e9, q9, n9, p9, x9, w9⟩ := arr_putK (σ := σ8) (X := X8) (s := s) (t := s + 1 + 1 + 1 + 1 + 1 + 1 + 1 + 1 + 1) (f := 27) (ci := 8) (n := 18) (kd := 10) (by omega) K8 (by omega)
  have K9 : shK σ9 s = 8 := (p9.knd (by omega)).trans K8
  obtain ⟨σ10, X10, e10, q10, n10, p10, x10, w10⟩ := arr_putK (σ := σ9) (X := X9) (s := s) (t := s + 1 + 1 + 1 + 1 + 1 + 1 + 1 + 1 + 1 + 1) (f := 28) (ci := 8) (n := 2000) (kd := 10) (by omega) K9 (by omega)
  have K10 : shK σ10 s = 8 := (p10.knd (by omega)).trans K9
  obtain ⟨σ11, X11, e11, q11, n11, p11, x11, w11⟩ := arr_putK (σ := σ10) (X := X10) (s := s) (t := s + 1 + 1 + 1 + 1 + 1 + 1 + 1 + 1 + 1 + 1 + 1) (f := 29) (ci := 8) (n := 316) (kd := 10) (by omega) K10 (by omega)
  have K11 : shK σ11 s = 8 := (p11.knd (by omega)).trans K10
  obtain ⟨σ12, X12, e12, q12, n12, p12, x12, w12⟩ := arr_putK (σ := σ11) (X := X11) (s := s) (t := s + 1 + 1 + 1 + 1 + 1 + 1 + 1 + 1 + 1 + 1 + 1 + 1) (f := 30) (ci := 8) (n := 9) (kd := 10) (by omega) K11 (by omega)
  have K12 : shK σ12 s = 8 := (p12.knd (by omega)).trans K11
  obtain ⟨σ13, X13, e13, q13, n13, p13, x13, w13⟩ := arr_putK (σ := σ12) (X := X12) (s := s) (t := s + 1 + 1 + 1 + 1 + 1 + 1 + 1 + 1 + 1 + 1 + 1 + 1 + 1) (f := 31) (ci := 8) (n := 10) (kd := 10) (by omega) K12 (by omega)
  have K13 : shK σ13 s = 8 := (p13.knd (by omega)).trans K12
  obtain ⟨σ14, X14, e14, q14, n14, p14, x14, w14⟩ := arr_putK (σ := σ13) (X := X13) (s := s) (t := s + 1 + 1 + 1 + 1 + 1 + 1 + 1 + 1 + 1 + 1 + 1 + 1 + 1 + 1) (f := 33) (ci := 8) (n := 24) (kd := 10) (by omega) K13 (by omega)
  have K14 : shK σ14 s = 8 := (p14.knd (by omega)).trans K13
  obtain ⟨σ15, X15, e15, q15, n15, p15, x15, w15⟩ := arr_putK (σ := σ14) (X := X14) (s := s) (t := s + 1 + 1 + 1 + 1 + 1 + 1 + 1 + 1 + 1 + 1 + 1 + 1 + 1 + 1 + 1) (f := 38) (ci := 8) (n := 931) (kd := 10) (by omega) K14 (by omega)
  have K15 : shK σ15 s = 8 := (p15.knd (by omega)).trans K14
  obtain ⟨σ16, X16, e16, q16, n16, p16, x16, w16⟩ := arr_putK (σ := σ15) (X := X15) (s := s) (t := s + 1 + 1 + 1 + 1 + 1 + 1 + 1 + 1 + 1 + 1 + 1 + 1 + 1 + 1 + 1 + 1) (f := 39) (ci := 8) (n := 27930) (kd := 10) (by omega) K15 (by omega)
  have K16 : shK σ16 s = 8 := (p16.knd (by omega)).trans K15
  obtain ⟨σ17, X17, e17, q17, n17, p17, x17, w17⟩ := arr_putK (σ := σ16) (X := X16) (s := s) (t := s + 1 + 1 + 1 + 1 + 1 + 1 + 1 + 1 + 1 + 1 + 1 + 1 + 1 + 1 + 1 + 1 + 1) (f := 40) (ci := 8) (n := 24) (kd := 10) (by omega) K16 (by omega)
  have K17 : shK σ17 s = 8 := (p17.knd (by omega)).trans K16
  have hm : mdOK σ17 s := ⟨K17, (by rw [p17.fld (by omega) (by omega), p16.fld (by omega) (by omega), p15.fld (by omega) (by omega), p14.fld (by omega) (by omega), p13.fld (by omega) (by omega), p12.fld (by omega) (by omega), p11.fld (by omega) (by omega), p10.fld (by omega) (by omega), p9.fld (by omega) (by omega), p8.fld (by omega) (by omega), p7.fld (by omega) (by omega), p6.fld (by omega) (by omega), p5.fld (by omega) (by omega), p4.fld (by omega) (by omega), p3.fld (by omega) (by omega), p2.fld (by omega) (by omega)]; exact p1.1), (by rw [p17.fld (by omega) (by omega), p16.fld (by omega) (by omega), p15.fld (by omega) (by omega), p14.fld (by omega) (by omega), p13.fld (by omega) (by omega), p12.fld (by omega) (by omega), p11.fld (by omega) (by omega), p10.fld (by omega) (by omega), p9.fld (by omega) (by omega), p8.fld (by omega) (by omega), p7.fld (by omega) (by omega), p6.fld (by omega) (by omega), p5.fld (by omega) (by omega), p4.fld (by omega) (by omega), p3.fld (by omega) (by omega)]; exact p2.1), (by rw [p17.fld (by omega) (by omega), p16.fld (by omega) (by omega), p15.fld (by omega) (by omega), p14.fld (by omega) (by omega), p13.fld (by omega) (by omega), p12.fld (by omega) (by omega), p11.fld (by omega) (by omega), p10.fld (by omega) (by omega), p9.fld (by omega) (by omega), p8.fld (by omega) (by omega), p7.fld (by omega) (by omega), p6.fld (by omega) (by omega), p5.fld (by omega) (by omega), p4.fld (by omega) (by omega)]; exact p3.1), (by rw [p17.fld (by omega) (by omega), p16.fld (by omega) (by omega), p15.fld (by omega) (by omega), p14.fld (by omega) (by omega), p13.fld (by omega) (by omega), p12.fld (by omega) (by omega), p11.fld (by omega) (by omega), p10.fld (by omega) (by omega), p9.fld (by omega) (by omega), p8.fld (by omega) (by omega), p7.fld (by omega) (by omega), p6.fld (by omega) (by omega), p5.fld (by omega) (by omega)]; exact p4.1), (by rw [p17.fld (by omega) (by omega), p16.fld (by omega) (by omega), p15.fld (by omega) (by omega), p14.fld (by omega) (by omega), p13.fld (by omega) (by omega), p12.fld (by omega) (by omega), p11.fld (by omega) (by omega), p10.fld (by omega) (by omega), p9.fld (by omega) (by omega), p8.fld (by omega) (by omega), p7.fld (by omega) (by omega), p6.fld (by omega) (by omega)]; exact p5.1), (by rw [p17.fld (by omega) (by omega), p16.fld (by omega) (by omega), p15.fld (by omega) (by omega), p14.fld (by omega) (by omega), p13.fld (by omega) (by omega), p12.fld (by omega) (by omega), p11.fld (by omega) (by omega), p10.fld (by omega) (by omega), p9.fld (by omega) (by omega), p8.fld (by omega) (by omega), p7.fld (by omega) (by omega)]; exact p6.1), (by rw [p17.fld (by omega) (by omega), p16.fld (by omega) (by omega), p15.fld (by omega) (by omega), p14.fld (by omega) (by omega), p13.fld (by omega) (by omega), p12.fld (by omega) (by omega), p11.fld (by omega) (by omega), p10.fld (by omega) (by omega), p9.fld (by omega) (by omega), p8.fld (by omega) (by omega)]; exact p7.1), (by rw [p17.fld (by omega) (by omega), p16.fld (by omega) (by omega), p15.fld (by omega) (by omega), p14.fld (by omega) (by omega), p13.fld (by omega) (by omega), p12.fld (by omega) (by omega), p11.fld (by omega) (by omega), p10.fld (by omega) (by omega), p9.fld (by omega) (by omega)]; exact p8.1), (by rw [p17.fld (by omega) (by omega), p16.fld (by omega) (by omega), p15.fld (by omega) (by omega), p14.fld (by omega) (by omega), p13.fld (by omega) (by omega), p12.fld (by omega) (by omega), p11.fld (by omega) (by omega), p10.fld (by omega) (by omega)]; exact p9.1), (by rw [p17.fld (by omega) (by omega), p16.fld (by omega) (by omega), p15.fld (by omega) (by omega), p14.fld (by omega) (by omega), p13.fld (by omega) (by omega), p12.fld (by omega) (by omega), p11.fld (by omega) (by omega)]; exact p10.1), (by rw [p17.fld (by omega) (by omega), p16.fld (by omega) (by omega), p15.fld (by omega) (by omega), p14.fld (by omega) (by omega), p13.fld (by omega) (by omega), p12.fld (by omega) (by omega)]; exact p11.1), (by rw [p17.fld (by omega) (by omega), p16.fld (by omega) (by omega), p15.fld (by omega) (by omega), p14.fld (by omega) (by omega), p13.fld (by omega) (by omega)]; exact p12.1), (by rw [p17.fld (by omega) (by omega), p16.fld (by omega) (by omega), p15.fld (by omega) (by omega), p14.fld (by omega) (by omega)]; exact p13.1), (by rw [p17.fld (by omega) (by omega), p16.fld (by omega) (by omega), p15.fld (by omega) (by omega)]; exact p14.1), (by rw [p17.fld (by omega) (by omega), p16.fld (by omega) (by omega)]; exact p15.1), (by rw [p17.fld (by omega) (by omega)]; exact p16.1), p17.1, (((((((((((((((((((p2.seq (by omega) (by omega) : SEq σ1 σ2 (s + 1) (s + 1)).trans (p3.seq (by omega) (by omega))).trans (p4.seq (by omega) (by omega))).trans (p5.seq (by omega) (by omega))).trans (p6.seq (by omega) (by omega))).trans (p7.seq (by omega) (by omega))).trans (p8.seq (by omega) (by omega))).trans (p9.seq (by omega) (by omega))).trans (p10.seq (by omega) (by omega))).trans (p11.seq (by omega) (by omega))).trans (p12.seq (by omega) (by omega))).trans (p13.seq (by omega) (by omega))).trans (p14.seq (by omega) (by omega))).trans (p15.seq (by omega) (by omega))).trans (p16.seq (by omega) (by omega))).trans (p17.seq (by omega) (by omega)))) (s + 1) (Nat.le_refl _) (Nat.le_refl _)).1.trans q1), ((((((((((((((((((p3.seq (by omega) (by omega) : SEq σ2 σ3 (s + 2) (s + 2)).trans (p4.seq (by omega) (by omega))).trans (p5.seq (by omega) (by omega))).trans (p6.seq (by omega) (by omega))).trans (p7.seq (by omega) (by omega))).trans (p8.seq (by omega) (by omega))).trans (p9.seq (by omega) (by omega))).trans (p10.seq (by omega) (by omega))).trans (p11.seq (by omega) (by omega))).trans (p12.seq (by omega) (by omega))).trans (p13.seq (by omega) (by omega))).trans (p14.seq (by omega) (by omega))).trans (p15.seq (by omega) (by omega))).trans (p16.seq (by omega) (by omega))).trans (p17.seq (by omega) (by omega)))) (s + 2) (Nat.le_refl _) (Nat.le_refl _)).1.trans q2), (((((((((((((((((p4.seq (by omega) (by omega) : SEq σ3 σ4 (s + 3) (s + 3)).trans (p5.seq (by omega) (by omega))).trans (p6.seq (by omega) (by omega))).trans (p7.seq (by omega) (by omega))).trans (p8.seq (by omega) (by omega))).trans (p9.seq (by omega) (by omega))).trans (p10.seq (by omega) (by omega))).trans (p11.seq (by omega) (by omega))).trans (p12.seq (by omega) (by omega))).trans (p13.seq (by omega) (by omega))).trans (p14.seq (by omega) (by omega))).trans (p15.seq (by omega) (by omega))).trans (p16.seq (by omega) (by omega))).trans (p17.seq (by omega) (by omega)))) (s + 3) (Nat.le_refl _) (Nat.le_refl _)).1.trans q3), ((((((((((((((((p5.seq (by omega) (by omega) : SEq σ4 σ5 (s + 4) (s + 4)).trans (p6.seq (by omega) (by omega))).trans (p7.seq (by omega) (by omega))).trans (p8.seq (by omega) (by omega))).trans (p9.seq (by omega) (by omega))).trans (p10.seq (by omega) (by omega))).trans (p11.seq (by omega) (by omega))).trans (p12.seq (by omega) (by omega))).trans (p13.seq (by omega) (by omega))).trans (p14.seq (by omega) (by omega))).trans (p15.seq (by omega) (by omega))).trans (p16.seq (by omega) (by omega))).trans (p17.seq (by omega) (by omega)))) (s + 4) (Nat.le_refl _) (Nat.le_refl _)).1.trans q4), (((((((((((((((p6.seq (by omega) (by omega) : SEq σ5 σ6 (s + 5) (s + 5)).trans (p7.seq (by omega) (by omega))).trans (p8.seq (by omega) (by omega))).trans (p9.seq (by omega) (by omega))).trans (p10.seq (by omega) (by omega))).trans (p11.seq (by omega) (by omega))).trans (p12.seq (by omega) (by omega))).trans (p13.seq (by omega) (by omega))).trans (p14.seq (by omega) (by omega))).trans (p15.seq (by omega) (by omega))).trans (p16.seq (by omega) (by omega))).trans (p17.seq (by omega) (by omega)))) (s + 5) (Nat.le_refl _) (Nat.le_refl _)).1.trans q5), ((((((((((((((p7.seq (by omega) (by omega) : SEq σ6 σ7 (s + 6) (s + 6)).trans (p8.seq (by omega) (by omega))).trans (p9.seq (by omega) (by omega))).trans (p10.seq (by omega) (by omega))).trans (p11.seq (by omega) (by omega))).trans (p12.seq (by omega) (by omega))).trans (p13.seq (by omega) (by omega))).trans (p14.seq (by omega) (by omega))).trans (p15.seq (by omega) (by omega))).trans (p16.seq (by omega) (by omega))).trans (p17.seq (by omega) (by omega)))) (s + 6) (Nat.le_refl _) (Nat.le_refl _)).1.trans q6), (((((((((((((p8.seq (by omega) (by omega) : SEq σ7 σ8 (s + 7) (s + 7)).trans (p9.seq (by omega) (by omega))).trans (p10.seq (by omega) (by omega))).trans (p11.seq (by omega) (by omega))).trans (p12.seq (by omega) (by omega))).trans (p13.seq (by omega) (by omega))).trans (p14.seq (by omega) (by omega))).trans (p15.seq (by omega) (by omega))).trans (p16.seq (by omega) (by omega))).trans (p17.seq (by omega) (by omega)))) (s + 7) (Nat.le_refl _) (Nat.le_refl _)).1.trans q7), ((((((((((((p9.seq (by omega) (by omega) : SEq σ8 σ9 (s + 8) (s + 8)).trans (p10.seq (by omega) (by omega))).trans (p11.seq (by omega) (by omega))).trans (p12.seq (by omega) (by omega))).trans (p13.seq (by omega) (by omega))).trans (p14.seq (by omega) (by omega))).trans (p15.seq (by omega) (by omega))).trans (p16.seq (by omega) (by omega))).trans (p17.seq (by omega) (by omega)))) (s + 8) (Nat.le_refl _) (Nat.le_refl _)).1.trans q8), (((((((((((p10.seq (by omega) (by omega) : SEq σ9 σ10 (s + 9) (s + 9)).trans (p11.seq (by omega) (by omega))).trans (p12.seq (by omega) (by omega))).trans (p13.seq (by omega) (by omega))).trans (p14.seq (by omega) (by omega))).trans (p15.seq (by omega) (by omega))).trans (p16.seq (by omega) (by omega))).trans (p17.seq (by omega) (by omega)))) (s + 9) (Nat.le_refl _) (Nat.le_refl _)).1.trans q9), ((((((((((p11.seq (by omega) (by omega) : SEq σ10 σ11 (s + 10) (s + 10)).trans (p12.seq (by omega) (by omega))).trans (p13.seq (by omega) (by omega))).trans (p14.seq (by omega) (by omega))).trans (p15.seq (by omega) (by omega))).trans (p16.seq (by omega) (by omega))).trans (p17.seq (by omega) (by omega)))) (s + 10) (Nat.le_refl _) (Nat.le_refl _)).1.trans q10), (((((((((p12.seq (by omega) (by omega) : SEq σ11 σ12 (s + 11) (s + 11)).trans (p13.seq (by omega) (by omega))).trans (p14.seq (by omega) (by omega))).trans (p15.seq (by omega) (by omega))).trans (p16.seq (by omega) (by omega))).trans (p17.seq (by omega) (by omega)))) (s + 11) (Nat.le_refl _) (Nat.le_refl _)).1.trans q11), ((((((((p13.seq (by omega) (by omega) : SEq σ12 σ13 (s + 12) (s + 12)).trans (p14.seq (by omega) (by omega))).trans (p15.seq (by omega) (by omega))).trans (p16.seq (by omega) (by omega))).trans (p17.seq (by omega) (by omega)))) (s + 12) (Nat.le_refl _) (Nat.le_refl _)).1.trans q12), (((((((p14.seq (by omega) (by omega) : SEq σ13 σ14 (s + 13) (s + 13)).trans (p15.seq (by omega) (by omega))).trans (p16.seq (by omega) (by omega))).trans (p17.seq (by omega) (by omega)))) (s + 13) (Nat.le_refl _) (Nat.le_refl _)).1.trans q13), ((((((p15.seq (by omega) (by omega) : SEq σ14 σ15 (s + 14) (s + 14)).trans (p16.seq (by omega) (by omega))).trans (p17.seq (by omega) (by omega)))) (s + 14) (Nat.le_refl _) (Nat.le_refl _)).1.trans q14), (((((p16.seq (by omega) (by omega) : SEq σ15 σ16 (s + 15) (s + 15)).trans (p17.seq (by omega) (by omega)))) (s + 15) (Nat.le_refl _) (Nat.le_refl _)).1.trans q15), ((((p17.seq (by omega) (by omega) : SEq σ16 σ17 (s + 16) (s + 16))) (s + 16) (Nat.le_refl _) (Nat.le_refl _)).1.trans q16), (((SEq.refl : SEq σ17 σ17 (s + 17) (s + 17)) (s + 17) (Nat.le_refl _) (Nat.le_refl _)).1.trans q17), (((((((((((((((((((p2.seq (by omega) (by omega) : SEq σ1 σ2 (s + 1) (s + 1)).trans (p3.seq (by omega) (by omega))).trans (p4.seq (by omega) (by omega))).trans (p5.seq (by omega) (by omega))).trans (p6.seq (by omega) (by omega))).trans (p7.seq (by omega) (by omega))).trans (p8.seq (by omega) (by omega))).trans (p9.seq (by omega) (by omega))).trans (p10.seq (by omega) (by omega))).trans (p11.seq (by omega) (by omega))).trans (p12.seq (by omega) (by omega))).trans (p13.seq (by omega) (by omega))).trans (p14.seq (by omega) (by omega))).trans (p15.seq (by omega) (by omega))).trans (p16.seq (by omega) (by omega))).trans (p17.seq (by omega) (by omega)))) (s + 1) (Nat.le_refl _) (Nat.le_refl _)).2.1.trans n1), ((((((((((((((((((p3.seq (by omega) (by omega) : SEq σ2 σ3 (s + 2) (s + 2)).trans (p4.seq (by omega) (by omega))).trans (p5.seq (by omega) (by omega))).trans (p6.seq (by omega) (by omega))).trans (p7.seq (by omega) (by omega))).trans (p8.seq (by omega) (by omega))).trans (p9.seq (by omega) (by omega))).trans (p10.seq (by omega) (by omega))).trans (p11.seq (by omega) (by omega))).trans (p12.seq (by omega) (by omega))).trans (p13.seq (by omega) (by omega))).trans (p14.seq (by omega) (by omega))).trans (p15.seq (by omega) (by omega))).trans (p16.seq (by omega) (by omega))).trans (p17.seq (by omega) (by omega)))) (s + 2) (Nat.le_refl _) (Nat.le_refl _)).2.1.trans n2), (((((((((((((((((p4.seq (by omega) (by omega) : SEq σ3 σ4 (s + 3) (s + 3)).trans (p5.seq (by omega) (by omega))).trans (p6.seq (by omega) (by omega))).trans (p7.seq (by omega) (by omega))).trans (p8.seq (by omega) (by omega))).trans (p9.seq (by omega) (by omega))).trans (p10.seq (by omega) (by omega))).trans (p11.seq (by omega) (by omega))).trans (p12.seq (by omega) (by omega))).trans (p13.seq (by omega) (by omega))).trans (p14.seq (by omega) (by omega))).trans (p15.seq (by omega) (by omega))).trans (p16.seq (by omega) (by omega))).trans (p17.seq (by omega) (by omega)))) (s + 3) (Nat.le_refl _) (Nat.le_refl _)).2.1.trans n3), ((((((((((((((((p5.seq (by omega) (by omega) : SEq σ4 σ5 (s + 4) (s + 4)).trans (p6.seq (by omega) (by omega))).trans (p7.seq (by omega) (by omega))).trans (p8.seq (by omega) (by omega))).trans (p9.seq (by omega) (by omega))).trans (p10.seq (by omega) (by omega))).trans (p11.seq (by omega) (by omega))).trans (p12.seq (by omega) (by omega))).trans (p13.seq (by omega) (by omega))).trans (p14.seq (by omega) (by omega))).trans (p15.seq (by omega) (by omega))).trans (p16.seq (by omega) (by omega))).trans (p17.seq (by omega) (by omega)))) (s + 4) (Nat.le_refl _) (Nat.le_refl _)).2.1.trans n4), (((((((((((((((p6.seq (by omega) (by omega) : SEq σ5 σ6 (s + 5) (s + 5)).trans (p7.seq (by omega) (by omega))).trans (p8.seq (by omega) (by omega))).trans (p9.seq (by omega) (by omega))).trans (p10.seq (by omega) (by omega))).trans (p11.seq (by omega) (by omega))).trans (p12.seq (by omega) (by omega))).trans (p13.seq (by omega) (by omega))).trans (p14.seq (by omega) (by omega))).trans (p15.seq (by omega) (by omega))).trans (p16.seq (by omega) (by omega))).trans (p17.seq (by omega) (by omega)))) (s + 5) (Nat.le_refl _) (Nat.le_refl _)).2.1.trans n5), ((((((((((((((p7.seq (by omega) (by omega) : SEq σ6 σ7 (s + 6) (s + 6)).trans (p8.seq (by omega) (by omega))).trans (p9.seq (by omega) (by omega))).trans (p10.seq (by omega) (by omega))).trans (p11.seq (by omega) (by omega))).trans (p12.seq (by omega) (by omega))).trans (p13.seq (by omega) (by omega))).trans (p14.seq (by omega) (by omega))).trans (p15.seq (by omega) (by omega))).trans (p16.seq (by omega) (by omega))).trans (p17.seq (by omega) (by omega)))) (s + 6) (Nat.le_refl _) (Nat.le_refl _)).2.1.trans n6), (((((((((((((p8.seq (by omega) (by omega) : SEq σ7 σ8 (s + 7) (s + 7)).trans (p9.seq (by omega) (by omega))).trans (p10.seq (by omega) (by omega))).trans (p11.seq (by omega) (by omega))).trans (p12.seq (by omega) (by omega))).trans (p13.seq (by omega) (by omega))).trans (p14.seq (by omega) (by omega))).trans (p15.seq (by omega) (by omega))).trans (p16.seq (by omega) (by omega))).trans (p17.seq (by omega) (by omega)))) (s + 7) (Nat.le_refl _) (Nat.le_refl _)).2.1.trans n7), ((((((((((((p9.seq (by omega) (by omega) : SEq σ8 σ9 (s + 8) (s + 8)).trans (p10.seq (by omega) (by omega))).trans (p11.seq (by omega) (by omega))).trans (p12.seq (by omega) (by omega))).trans (p13.seq (by omega) (by omega))).trans (p14.seq (by omega) (by omega))).trans (p15.seq (by omega) (by omega))).trans (p16.seq (by omega) (by omega))).trans (p17.seq (by omega) (by omega)))) (s + 8) (Nat.le_refl _) (Nat.le_refl _)).2.1.trans n8), (((((((((((p10.seq (by omega) (by omega) : SEq σ9 σ10 (s + 9) (s + 9)).trans (p11.seq (by omega) (by omega))).trans (p12.seq (by omega) (by omega))).trans (p13.seq (by omega) (by omega))).trans (p14.seq (by omega) (by omega))).trans (p15.seq (by omega) (by omega))).trans (p16.seq (by omega) (by omega))).trans (p17.seq (by omega) (by omega)))) (s + 9) (Nat.le_refl _) (Nat.le_refl _)).2.1.trans n9), ((((((((((p11.seq (by omega) (by omega) : SEq σ10 σ11 (s + 10) (s + 10)).trans (p12.seq (by omega) (by omega))).trans (p13.seq (by omega) (by omega))).trans (p14.seq (by omega) (by omega))).trans (p15.seq (by omega) (by omega))).trans (p16.seq (by omega) (by omega))).trans (p17.seq (by omega) (by omega)))) (s + 10) (Nat.le_refl _) (Nat.le_refl _)).2.1.trans n10), (((((((((p12.seq (by omega) (by omega) : SEq σ11 σ12 (s + 11) (s + 11)).trans (p13.seq (by omega) (by omega))).trans (p14.seq (by omega) (by omega))).trans (p15.seq (by omega) (by omega))).trans (p16.seq (by omega) (by omega))).trans (p17.seq (by omega) (by omega)))) (s + 11) (Nat.le_refl _) (Nat.le_refl _)).2.1.trans n11), ((((((((p13.seq (by omega) (by omega) : SEq σ12 σ13 (s + 12) (s + 12)).trans (p14.seq (by omega) (by omega))).trans (p15.seq (by omega) (by omega))).trans (p16.seq (by omega) (by omega))).trans (p17.seq (by omega) (by omega)))) (s + 12) (Nat.le_refl _) (Nat.le_refl _)).2.1.trans n12), (((((((p14.seq (by omega) (by omega) : SEq σ13 σ14 (s + 13) (s + 13)).trans (p15.seq (by omega) (by omega))).trans (p16.seq (by omega) (by omega))).trans (p17.seq (by omega) (by omega)))) (s + 13) (Nat.le_refl _) (Nat.le_refl _)).2.1.trans n13), ((((((p15.seq (by omega) (by omega) : SEq σ14 σ15 (s + 14) (s + 14)).trans (p16.seq (by omega) (by omega))).trans (p17.seq (by omega) (by omega)))) (s + 14) (Nat.le_refl _) (Nat.le_refl _)).2.1.trans n14), (((((p16.seq (by omega) (by omega) : SEq σ15 σ16 (s + 15) (s + 15)).trans (p17.seq (by omega) (by omega)))) (s + 15) (Nat.le_refl _) (Nat.le_refl _)).2.1.trans n15), ((((p17.seq (by omega) (by omega) : SEq σ16 σ17 (s + 16) (s + 16))) (s + 16) (Nat.le_refl _) (Nat.le_refl _)).2.1.trans n16), (((SEq.refl : SEq σ17 σ17 (s + 17) (s + 17)) (s + 17) (Nat.le_refl _) (Nat.le_refl _)).2.1.trans n17)⟩
  have m0 := hm.1
  have m3 : shR σ17 s 17 = some (s + 3) := hm.2.2.2.1
  have mq3 : shK σ17 (s + 3) = 10 := (((((((((((((((((p4.seq (by omega) (by omega) : SEq σ3 σ4 (s + 3) (s + 3)).trans (p5.seq (by omega) (by omega))).trans (p6.seq (by omega) (by omega))).trans (p7.seq (by omega) (by omega))).trans (p8.seq (by omega) (by omega))).trans (p9.seq (by omega) (by omega))).trans (p10.seq (by omega) (by omega))).trans (p11.seq (by omega) (by omega))).trans (p12.seq (by omega) (by omega))).trans (p13.seq (by omega) (by omega))).trans (p14.seq (by omega) (by omega))).trans (p15.seq (by omega) (by omega))).trans (p16.seq (by omega) (by omega))).trans (p17.seq (by omega) (by omega)))) (s + 3) (Nat.le_refl _) (Nat.le_refl _)).1.trans q3)
  have mn3 : shN σ17 (s + 3) = 1862 := (((((((((((((((((p4.seq (by omega) (by omega) : SEq σ3 σ4 (s + 3) (s + 3)).trans (p5.seq (by omega) (by omega))).trans (p6.seq (by omega) (by omega))).trans (p7.seq (by omega) (by omega))).trans (p8.seq (by omega) (by omega))).trans (p9.seq (by omega) (by omega))).trans (p10.seq (by omega) (by omega))).trans (p11.seq (by omega) (by omega))).trans (p12.seq (by omega) (by omega))).trans (p13.seq (by omega) (by omega))).trans (p14.seq (by omega) (by omega))).trans (p15.seq (by omega) (by omega))).trans (p16.seq (by omega) (by omega))).trans (p17.seq (by omega) (by omega)))) (s + 3) (Nat.le_refl _) (Nat.le_refl _)).2.1.trans n3)
  have xs : ∀ j, X17.1 s j = if j = 4 then -(nI 1) else nI 0 := fun j => by
    rw [p17.mem (show s < _ by omega), p16.mem (show s < _ by omega), p15.mem (show s < _ by omega), p14.mem (show s < _ by omega), p13.mem (show s < _ by omega), p12.mem (show s < _ by omega), p11.mem (show s < _ by omega), p10.mem (show s < _ by omega), p9.mem (show s < _ by omega), p8.mem (show s < _ by omega), p7.mem (show s < _ by omega), p6.mem (show s < _ by omega), p5.mem (show s < _ by omega), p4.mem (show s < _ by omega), p3.mem (show s < _ by omega), p2.mem (show s < _ by omega), hX1b]
    by_cases q : j = 4
    · rw [q, sI_eq, if_pos rfl]
    · rw [sI_nk q, p1.mem (by omega), if_neg q]; exact hx j
  have x3' : ∀ j, X17.1 (s + 3) j = nI 0 := fun j => by rw [p17.mem (show s + 3 < _ by omega), p16.mem (show s + 3 < _ by omega), p15.mem (show s + 3 < _ by omega), p14.mem (show s + 3 < _ by omega), p13.mem (show s + 3 < _ by omega), p12.mem (show s + 3 < _ by omega), p11.mem (show s + 3 < _ by omega), p10.mem (show s + 3 < _ by omega), p9.mem (show s + 3 < _ by omega), p8.mem (show s + 3 < _ by omega), p7.mem (show s + 3 < _ by omega), p6.mem (show s + 3 < _ by omega), p5.mem (show s + 3 < _ by omega), p4.mem (show s + 3 < _ by omega)]; exact x3 j
  have x2' : ∀ j, X17.1 (s + 2) j = nI 0 := fun j => by rw [p17.mem (show s + 2 < _ by omega), p16.mem (show s + 2 < _ by omega), p15.mem (show s + 2 < _ by omega), p14.mem (show s + 2 < _ by omega), p13.mem (show s + 2 < _ by omega), p12.mem (show s + 2 < _ by omega), p11.mem (show s + 2 < _ by omega), p10.mem (show s + 2 < _ by omega), p9.mem (show s + 2 < _ by omega), p8.mem (show s + 2 < _ by omega), p7.mem (show s + 2 < _ by omega), p6.mem (show s + 2 < _ by omega), p5.mem (show s + 2 < _ by omega), p4.mem (show s + 2 < _ by omega), p3.mem (show s + 2 < _ by omega)]; exact x2 j
  obtain ⟨n, S, e, w1, w2, w3, w4⟩ := up_loop (fun n (S : Mx) k => f_X10_init_155 s n σ17 S (s + 1 + 1 + 1 + 1 + 1 + 1 + 1 + 1 + 1 + 1 + 1 + 1 + 1 + 1 + 1 + 1 + 1 + 1) (nI k)) 316 (fun k S => S.2 = X17.2 ∧ (∀ q, q ≠ s + 3 → S.1 q = X17.1 q) ∧ (∀ j, j < 615 → S.1 (s + 3) j = nI 0) ∧ (∀ j, j < k → S.1 (s + 3) (615 + j) = -(nI 1))) (by
    intro n k S hk ⟨h1, h2, h3, h4⟩
    refine ⟨sI S (s + 3) (615 + k) (-(nI 1)), ?_, h1, fun q hq => by rw [sI_ne hq]; exact h2 q hq, fun j hj => by rw [sI_nk (by omega)]; exact h3 j hj, fun j hj => ?_⟩
    · show f_X10_init_155 s (n + 1) σ17 S _ (nI k) = f_X10_init_155 s n σ17 _ _ (nI (k + 1))
      rw [f_X10_init_155]
      simp only [litM]
      rw [if_neg (by rw [n_le (by omega) (by omega)]; omega)]
      simp only [ldR, m0, m3, if_true, Option.bind_some, nI_add]
      rw [stA_t mq3 (by omega) (by omega)]
    · by_cases q : j = k
      · rw [q, sI_eq]
      · rw [sI_nk (by omega)]; exact h4 j (by omega)) FU 0 X17 (by omega) ⟨rfl, fun _ _ => rfl, fun j _ => x3' j, fun j hj => absurd hj (Nat.not_lt_zero _)⟩ (by rw [FU_40000]; omega)
  have efin : f_X10_init_155 s FU σ17 X17 (s + 1 + 1 + 1 + 1 + 1 + 1 + 1 + 1 + 1 + 1 + 1 + 1 + 1 + 1 + 1 + 1 + 1 + 1) (nI 0) = some ((), σ17, S, 0, 0) := by
    refine Eq.trans e ?_
    show f_X10_init_155 s (n + 1) σ17 S _ (nI 316) = _
    rw [f_X10_init_155]
    exact if_pos (Int32.le_refl _)
  have b1 : BuF σ σ1 X X1b s (s + 1) := by
    have w : BuF σ σ1 X X1 s (s + 1) := BuF.start.put p1 rfl (by omega) (by omega)
    exact ⟨w.1, fun q hq => by rw [hX1b, sI_ne (by omega)]; exact w.2.1 q hq, w.2.2⟩
  have w : NwF σ σ17 X X17 s (s + 17) := BuF.nwF ((((((((((((((((b1.put p2 (by omega) (by omega) (by omega)).put p3 (by omega) (by omega) (by omega)).put p4 (by omega) (by omega) (by omega)).put p5 (by omega) (by omega) (by omega)).put p6 (by omega) (by omega) (by omega)).put p7 (by omega) (by omega) (by omega)).put p8 (by omega) (by omega) (by omega)).put p9 (by omega) (by omega) (by omega)).put p10 (by omega) (by omega) (by omega)).put p11 (by omega) (by omega) (by omega)).put p12 (by omega) (by omega) (by omega)).put p13 (by omega) (by omega) (by omega)).put p14 (by omega) (by omega) (by omega)).put p15 (by omega) (by omega) (by omega)).put p16 (by omega) (by omega) (by omega)).put p17 (by omega) (by omega) (by omega)) (by omega)
  refine ⟨σ17, S, ?_, ⟨w.1, fun q hq => by rw [w2 q (by omega)]; exact w.2.1 q hq, w.2.2⟩, hm, fun j hj => by rw [w2 s (by omega), xs, if_neg hj], by rw [w2 s (by omega), xs, if_pos rfl], w3, w4, fun j => by rw [w2 _ (by omega)]; exact x2' j⟩
  unfold f_X10_init
  rw [grd_t hK]
  simp only [litM]
  rw [e1, stI_t K1, ← hX1b, e2, e3, e4, e5, e6, e7, e8, e9, e10, e11, e12, e13, e14, e15, e16, e17, efin]
  rfl
