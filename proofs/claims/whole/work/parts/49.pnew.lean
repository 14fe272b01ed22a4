/-! ===== objects that are made ===== -/
theorem shK_n {σ : Sh} {z k n b : Nat} : shK (shNew σ z k n) b = if b = z then k else shK σ b := rfl
theorem shN_n {σ : Sh} {z k n b : Nat} : shN (shNew σ z k n) b = if b = z then n else shN σ b := rfl
theorem shR_n {σ : Sh} {z k n b j : Nat} : shR (shNew σ z k n) b j = if b = z then none else shR σ b j := rfl
theorem shL_n {σ : Sh} {z k n : Nat} : shL (shNew σ z k n) = shL σ ++ [z] := rfl
theorem shK_s {σ : Sh} {a k : Nat} {v : Option Nat} {b : Nat} : shK (sR σ a k v) b = shK σ b := rfl
theorem shN_s {σ : Sh} {a k : Nat} {v : Option Nat} {b : Nat} : shN (sR σ a k v) b = shN σ b := rfl
theorem shR_s {σ : Sh} {a k : Nat} {v : Option Nat} {b j : Nat} : shR (sR σ a k v) b j = if b = a ∧ j = k then v else shR σ b j := rfl
theorem shL_s {σ : Sh} {a k : Nat} {v : Option Nat} : shL (sR σ a k v) = shL σ := rfl
theorem xN_ne {X : Mx} {z b : Nat} (h : b ≠ z) : (xNew X z).1 b = X.1 b := funext fun j => if_neg h
theorem xN_at {X : Mx} {z j : Nat} : (xNew X z).1 z j = 0 := if_pos rfl
theorem nwA_t {ρ : Type} {σ : Sh} {X : Mx} {z kd n : Nat} {cont : Sh → Mx → Option (Hr ρ)} (h : n ≤ 60000) : nwA σ X z kd (nI n) cont = adc 1 n (cont (shNew σ z kd n) (xNew X z)) := by
  unfold nwA
  rw [nI_clamp (by omega), if_pos ⟨nI_pos (by omega), by omega⟩]
theorem bndH_s {α ρ : Type} {x : α} {σ : Sh} {X : Mx} {c d : Nat} {k : α → Sh → Mx → Nat → Nat → Option (Hr ρ)} : bndH (some (x, σ, X, c, d)) k = adc c d (k x σ X c d) := rfl
theorem stR_t {ρ : Type} {σ : Sh} {ci a k v : Nat} {cont : Sh → Option ρ} (h : shK σ a = ci) : stR σ ci a k v cont = cont (sR σ a k (some v)) := if_pos h
/-- the shape is the same over a stretch -/
def SEq (σ σ1 : Sh) (lo hi : Nat) : Prop := ∀ q, lo ≤ q → q ≤ hi → shK σ1 q = shK σ q ∧ shN σ1 q = shN σ q ∧ ∀ j, shR σ1 q j = shR σ q j
theorem SEq.sub {σ σ1 : Sh} {lo hi lo' hi' : Nat} (h : SEq σ σ1 lo hi) (h1 : lo ≤ lo') (h2 : hi' ≤ hi) : SEq σ σ1 lo' hi' := fun q a b => h q (by omega) (by omega)
theorem tabOK.ext {σ σ1 : Sh} {a : Nat} (h : tabOK σ a) (e : SEq σ σ1 a (a + 3)) : tabOK σ1 a := by
  obtain ⟨k0, n0, r0⟩ := e a (by omega) (by omega)
  obtain ⟨k1, n1, r1⟩ := e (a + 1) (by omega) (by omega)
  obtain ⟨k2, n2, r2⟩ := e (a + 2) (by omega) (by omega)
  obtain ⟨k3, n3, r3⟩ := e (a + 3) (by omega) (by omega)
  unfold tabOK
  rw [k0, r0, r0, r0, k1, n1, k2, n2, k3, n3]
  exact h
theorem stOK.ext {σ σ1 : Sh} {s L R : Nat} (h : stOK σ s L R) (e : SEq σ σ1 s (s + 16)) : stOK σ1 s L R := by
  have lr := h.lr
  obtain ⟨s0, s1, s2, s3, s4, s5, s6, s7, s8, s9, s10, s11, s12, s13, s14, s15, s16, s17, s18⟩ := h
  obtain ⟨k0, n0, r0⟩ := e s (by omega) (by omega)
  obtain ⟨k13, n13, r13⟩ := e (s + 13) (by omega) (by omega)
  obtain ⟨k14, n14, r14⟩ := e (s + 14) (by omega) (by omega)
  obtain ⟨k15, n15, r15⟩ := e (s + 15) (by omega) (by omega)
  obtain ⟨k16, n16, r16⟩ := e (s + 16) (by omega) (by omega)
  unfold stOK
  rw [k0, r0, r0, r0, r0, r0, r0, r0, k13, n13, k14, n14, k15, n15, k16, n16]
  exact ⟨s0, s1, s2, s3, s4, s5, s6, s7, s8.ext (e.sub (by omega) (by omega)), s9.ext (e.sub (by omega) (by omega)), s10.ext (e.sub (by omega) (by omega)), s11, s12, s13, s14, s15, s16, s17, s18⟩
theorem mgOK.ext {σ σ1 : Sh} {g : Nat} (h : mgOK σ g) (e : SEq σ σ1 g (g + 9)) : mgOK σ1 g := by
  obtain ⟨g0, g1, g2, g3, g4, g5, g6, gT, k5, l5, k6, l6, k7, l7, k8, l8, k9, l9⟩ := h
  obtain ⟨k0, n0, r0⟩ := e g (by omega) (by omega)
  obtain ⟨q5, n5, r5⟩ := e (g + 5) (by omega) (by omega)
  obtain ⟨q6, n6, r6⟩ := e (g + 6) (by omega) (by omega)
  obtain ⟨q7, n7, r7⟩ := e (g + 7) (by omega) (by omega)
  obtain ⟨q8, n8, r8⟩ := e (g + 8) (by omega) (by omega)
  obtain ⟨q9, n9, r9⟩ := e (g + 9) (by omega) (by omega)
  unfold mgOK
  rw [k0, r0, r0, r0, r0, r0, r0, q5, n5, q6, n6, q7, n7, q8, n8, q9, n9]
  exact ⟨g0, g1, g2, g3, g4, g5, g6, gT.ext (e.sub (by omega) (by omega)), k5, l5, k6, l6, k7, l7, k8, l8, k9, l9⟩
theorem mdOK.ext {σ σ1 : Sh} {m : Nat} (h : mdOK σ m) (e : SEq σ σ1 m (m + 17)) : mdOK σ1 m := by
  obtain ⟨k0, n0, r0⟩ := e m (by omega) (by omega)
  have k : ∀ i, i ≤ 17 → shK σ1 (m + i) = shK σ (m + i) := fun i hi => (e (m + i) (by omega) (by omega)).1
  have n : ∀ i, i ≤ 17 → shN σ1 (m + i) = shN σ (m + i) := fun i hi => (e (m + i) (by omega) (by omega)).2.1
  unfold mdOK
  rw [k0, k 1 (by omega), k 2 (by omega), k 3 (by omega), k 4 (by omega), k 5 (by omega), k 6 (by omega), k 7 (by omega), k 8 (by omega), k 9 (by omega), k 10 (by omega), k 11 (by omega), k 12 (by omega), k 13 (by omega), k 14 (by omega), k 15 (by omega), k 16 (by omega), k 17 (by omega), n 1 (by omega), n 2 (by omega), n 3 (by omega), n 4 (by omega), n 5 (by omega), n 6 (by omega), n 7 (by omega), n 8 (by omega), n 9 (by omega), n 10 (by omega), n 11 (by omega), n 12 (by omega), n 13 (by omega), n 14 (by omega), n 15 (by omega), n 16 (by omega), n 17 (by omega)]
  simp only [r0]
  exact h
theorem objOK.ext {σ σ1 : Sh} {a : Nat} (h : objOK σ a) (e : ∀ q, a ≤ q → q ≤ a + 126 → shK σ1 q = shK σ q ∧ shN σ1 q = shN σ q ∧ (q ≠ a + 48 → q ≠ a + 102 → ∀ j, shR σ1 q j = shR σ q j)) : objOK σ1 a := by
  have s : ∀ lo hi, a ≤ lo → hi ≤ a + 126 → (hi < a + 48 ∨ a + 48 < lo) → (hi < a + 102 ∨ a + 102 < lo) → SEq σ σ1 lo hi := fun lo hi h1 h2 h3 h4 q q1 q2 => ⟨(e q (by omega) (by omega)).1, (e q (by omega) (by omega)).2.1, (e q (by omega) (by omega)).2.2 (by omega) (by omega)⟩
  have k : ∀ i, i ≤ 126 → shK σ1 (a + i) = shK σ (a + i) := fun i hi => (e _ (by omega) (by omega)).1
  have n : ∀ i, i ≤ 126 → shN σ1 (a + i) = shN σ (a + i) := fun i hi => (e _ (by omega) (by omega)).2.1
  have r : ∀ i, i ≤ 126 → i ≠ 48 → i ≠ 102 → ∀ j, shR σ1 (a + i) j = shR σ (a + i) j := fun i hi h1 h2 => (e _ (by omega) (by omega)).2.2 (by omega) (by omega)
  have k0 : shK σ1 a = shK σ a := k 0 (by omega)
  have r0 : ∀ j, shR σ1 a j = shR σ a j := r 0 (by omega) (by omega) (by omega)
  obtain ⟨o, oM, ⟨t0, t1, t2, t3, t4, t5⟩, ⟨a0, a1, a2, a3⟩, oS, ⟨q0, q1, q2, q3, q4, q5, q6, q7, q8, q9, q10, q11, q12, q13⟩, oI, ⟨b0, b1, b2, b3⟩, oS2, oR, oD, oO⟩ := h
  refine ⟨by simp only [k0, r0]; exact o, oM.ext (s _ _ (by omega) (by omega) (by omega) (by omega)), ⟨(k 28 (by omega)).trans t0, (r 28 (by omega) (by omega) (by omega) 0).trans t1, (r 28 (by omega) (by omega) (by omega) 2).trans t2, (k 29 (by omega)).trans t3, (n 29 (by omega)).trans t4, t5.ext (s _ _ (by omega) (by omega) (by omega) (by omega))⟩, ⟨(k 47 (by omega)).trans a0, (r 47 (by omega) (by omega) (by omega) 0).trans a1, (k 48 (by omega)).trans a2, (n 48 (by omega)).trans a3⟩, ?_, ⟨(k 53 (by omega)).trans q0, (r 53 (by omega) (by omega) (by omega) 0).trans q1, (r 53 (by omega) (by omega) (by omega) 1).trans q2, (r 53 (by omega) (by omega) (by omega) 2).trans q3, (r 53 (by omega) (by omega) (by omega) 3).trans q4, (r 53 (by omega) (by omega) (by omega) 4).trans q5, q6.ext (s _ _ (by omega) (by omega) (by omega) (by omega)), q7.ext (s _ _ (by omega) (by omega) (by omega) (by omega)), (k 81 (by omega)).trans q8, (n 81 (by omega)).trans q9, (k 82 (by omega)).trans q10, (n 82 (by omega)).trans q11, (k 83 (by omega)).trans q12, (n 83 (by omega)).trans q13⟩, oI.ext (s _ _ (by omega) (by omega) (by omega) (by omega)), ⟨(k 101 (by omega)).trans b0, (r 101 (by omega) (by omega) (by omega) 0).trans b1, (k 102 (by omega)).trans b2, (n 102 (by omega)).trans b3⟩, ?_, ⟨(k 107 (by omega)).trans oR.1, (n 107 (by omega)).trans oR.2⟩, oD.ext (s _ _ (by omega) (by omega) (by omega) (by omega)), ⟨(k 126 (by omega)).trans oO.1, (n 126 (by omega)).trans oO.2⟩⟩
  · unfold snOK at oS ⊢
    rw [k 49 (by omega), r 49 (by omega) (by omega) (by omega), r 49 (by omega) (by omega) (by omega), r 49 (by omega) (by omega) (by omega)]
    rw [show shK σ1 (a + 49 + 1) = shK σ (a + 49 + 1) from k 50 (by omega), show shN σ1 (a + 49 + 1) = shN σ (a + 49 + 1) from n 50 (by omega), show shK σ1 (a + 49 + 2) = shK σ (a + 49 + 2) from k 51 (by omega), show shN σ1 (a + 49 + 2) = shN σ (a + 49 + 2) from n 51 (by omega), show shK σ1 (a + 49 + 3) = shK σ (a + 49 + 3) from k 52 (by omega), show shN σ1 (a + 49 + 3) = shN σ (a + 49 + 3) from n 52 (by omega)]
    exact oS
  · unfold snOK at oS2 ⊢
    rw [k 103 (by omega), r 103 (by omega) (by omega) (by omega), r 103 (by omega) (by omega) (by omega), r 103 (by omega) (by omega) (by omega)]
    rw [show shK σ1 (a + 103 + 1) = shK σ (a + 103 + 1) from k 104 (by omega), show shN σ1 (a + 103 + 1) = shN σ (a + 103 + 1) from n 104 (by omega), show shK σ1 (a + 103 + 2) = shK σ (a + 103 + 2) from k 105 (by omega), show shN σ1 (a + 103 + 2) = shN σ (a + 103 + 2) from n 105 (by omega), show shK σ1 (a + 103 + 3) = shK σ (a + 103 + 3) from k 106 (by omega), show shN σ1 (a + 103 + 3) = shN σ (a + 103 + 3) from n 106 (by omega)]
    exact oS2
