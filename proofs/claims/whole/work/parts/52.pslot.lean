/-! ===== the slots that acts are kept in ===== -/
theorem ldQ_s {ρ : Type} {σ : Sh} {b i s : Nat} {cont : Nat → Option ρ} {nul : Option ρ} (h : shK σ b = 11) (hn : shN σ b = 31) (hi : i < 31) (hr : shR σ b i = some s) : ldQ σ b (nI i) cont nul = cont s := by
  unfold ldQ; rw [if_pos ⟨h, nI_in (by omega) (by omega)⟩, nI_clamp (by omega), hr]
theorem ldQ_n {ρ : Type} {σ : Sh} {b i : Nat} {cont : Nat → Option ρ} {nul : Option ρ} (h : shK σ b = 11) (hn : shN σ b = 31) (hi : i < 31) (hr : shR σ b i = none) : ldQ σ b (nI i) cont nul = nul := by
  unfold ldQ; rw [if_pos ⟨h, nI_in (by omega) (by omega)⟩, nI_clamp (by omega), hr]
theorem stQ_t {ρ : Type} {σ : Sh} {b i v : Nat} {cont : Sh → Option ρ} (h : shK σ b = 11) (hn : shN σ b = 31) (hi : i < 31) (hv : shK σ v = 4) : stQ σ b (nI i) v cont = cont (sR σ b i (some v)) := by
  unfold stQ; rw [if_pos ⟨⟨h, nI_in (by omega) (by omega)⟩, hv⟩, nI_clamp (by omega)]
theorem fmod31 : ∀ n : Nat, n < 62 → f_J9_floorMod_7cf53 (nI n) (nI 31) = some (nI (n % 31)) := by decide +kernel
/-- how many slots are still empty -/
def nul (σ : Sh) (c : Nat) : Nat → Nat
  | 0 => 0
  | n + 1 => nul σ c n + (match shR σ c n with | none => 1 | some _ => 0)
theorem nul_eq {σ σ1 : Sh} {c : Nat} : ∀ n, (∀ j, j < n → shR σ1 c j = shR σ c j) → nul σ1 c n = nul σ c n
  | 0, _ => rfl
  | n + 1, h => by
    rw [nul, nul, nul_eq n (fun j hj => h j (by omega)), h n (by omega)]
theorem nul_set {σ σ1 : Sh} {c i v : Nat} (h0 : shR σ c i = none) (h1 : shR σ1 c i = some v) (h : ∀ j, j ≠ i → shR σ1 c j = shR σ c j) : ∀ n, i < n → nul σ1 c n + 1 = nul σ c n
  | 0, hi => by omega
  | n + 1, hi => by
    rw [nul, nul]
    by_cases e : i = n
    · subst e
      rw [nul_eq i (fun j hj => h j (by omega)), h0, h1]
      rfl
    · have := nul_set h0 h1 h n (by omega)
      rw [h n (fun q => e q.symm)]
      omega
def pot (σ : Sh) (a : Nat) : Nat := nul σ (a + 48) 31 + nul σ (a + 102) 31
/-- the memory grew by k objects of d slots, from z on -/
def GW (σ σ1 : Sh) (X X1 : Mx) (a z k d : Nat) : Prop := (∀ q ∈ shL σ1, q < z + k) ∧ k + 17 * pot σ1 a ≤ 17 * pot σ a ∧ d + 947 * pot σ1 a ≤ 947 * pot σ a ∧ (∀ q, q < z → X1.1 q = X.1 q) ∧ (∀ c i s, (c = a + 48 ∨ c = a + 102) → shR σ c i = some s → shR σ1 c i = some s)
theorem GW.refl {σ : Sh} {X : Mx} {a z : Nat} (h : ∀ q ∈ shL σ, q < z) : GW σ σ X X a z 0 0 := ⟨h, by omega, by omega, fun _ _ => rfl, fun _ _ _ _ h => h⟩
theorem IVs.top {σ : Sh} {a L R z : Nat} (h : IVs σ a L R) (hz : ∀ q ∈ shL σ, q < z) : a + 126 < z := hz _ (h.2.2.2 _ (by have := h.1.2.2.2.2.2.2.2.2.2.2.2.1; omega))
theorem IVs.slz {σ : Sh} {a L R z c i s : Nat} (h : IVs σ a L R) (hz : ∀ q ∈ shL σ, q < z) (hc : c = a + 48 ∨ c = a + 102) (hi : i < 31) (hr : shR σ c i = some s) : a + 126 < s ∧ s + 16 < z := by
  obtain ⟨h1, h2⟩ := h.2.2.1.1 c i s hc hi hr
  refine ⟨h2, hz _ (h.2.2.2 _ ?_)⟩
  have h17 := h1.2.2.2.2.2.2.2.2.2.2.2.2.2.2.2.2.2.1.1
  omega
theorem slot {σ : Sh} {X : Mx} {a L R z c f i : Nat} (hs : IVs σ a L R) (hz : ∀ q ∈ shL σ, q < z) (hc : c = a + 47 ∨ c = a + 101) (hf : f < 31) (hi : i < 31) (hX : X.1 c 1 = nI f) :
    ∃ s σ1 X1 k d, f_X0_slot σ X z c (nI i) = some (s, σ1, X1, k, d) ∧ IVs σ1 a L R ∧ GW σ σ1 X X1 a z k d ∧ shR σ1 (c + 1) ((f + i) % 31) = some s := by
  have hA : acOK σ c := by
    rcases hc with rfl | rfl
    · exact hs.1.2.2.2.1
    · exact hs.1.2.2.2.2.2.2.2.1
  obtain ⟨c0, c1, c2, c3⟩ := hA
  have hj : (f + i) % 31 < 31 := Nat.mod_lt _ (by omega)
  have e0 : f_X0_slot σ X z c (nI i) = ldQ σ (c + 1) (nI ((f + i) % 31)) (fun b5 => some (b5, σ, X, 0, 0)) (nwO σ X z 4 fun σ6 X7 => bndH (f_X5_init σ6 X7 (z + 1) z) fun u8 σ8 X8 c8 d8 => ldR σ8 0 c 0 fun b9 => stQ σ8 b9 (nI ((f + i) % 31)) z fun σ10 => some (z, σ10, X8, 0, 0)) := by
    unfold f_X0_slot
    simp only [litM]
    rw [grd_t c0, ldI_t c0, hX, nI_add, fmod31 (f + i) (by omega)]
    simp only [ldR, c0, c1, if_true, Option.bind_some]
  cases hr : shR σ (c + 1) ((f + i) % 31) with
  | some s =>
    exact ⟨s, σ, X, 0, 0, by rw [e0, ldQ_s c2 c3 hj hr], hs, GW.refl hz, hr⟩
  | none =>
    have hK : shK (shNew σ z 4 0) z = 4 := by rw [shK_n, if_pos rfl]
    obtain ⟨σ1, X1, e1, o1, ⟨n1, n2, n3⟩, -, -, -⟩ := st_new (X := xNew X z) hK
    have hT := hs.top hz
    have k1 : ∀ q, q < z → shK σ1 q = shK σ q ∧ shN σ1 q = shN σ q ∧ ∀ j, shR σ1 q j = shR σ q j := by
      intro q hq
      obtain ⟨q1, q2, q3⟩ := n1 q (by omega)
      refine ⟨q1.trans ?_, q2.trans ?_, fun j => (q3 j).trans ?_⟩
      · rw [shK_n, if_neg (by omega)]
      · rw [shN_n, if_neg (by omega)]
      · rw [shR_n, if_neg (by omega)]
    have hL : ∀ q, q ∈ shL σ1 ↔ q ∈ shL σ ∨ (z ≤ q ∧ q ≤ z + 16) := by
      intro q
      rw [n3, shL_n]
      by_cases hq : q ∈ shL σ
      · simp [hq]
      · simp only [List.mem_append, List.mem_singleton, hq, false_or]; omega
    obtain ⟨p0, p1, p2⟩ := k1 c (by omega)
    obtain ⟨r0, r1, r2⟩ := k1 (c + 1) (by omega)
    have hzK : shK σ1 z = 4 := o1.1
    have hSl : slOK (sR σ1 (c + 1) ((f + i) % 31) (some z)) a := by
      have g : ∀ c' i' s', (c' = a + 48 ∨ c' = a + 102) → shR (sR σ1 (c + 1) ((f + i) % 31) (some z)) c' i' = some s' → (c' = c + 1 ∧ i' = (f + i) % 31 ∧ s' = z) ∨ (¬ (c' = c + 1 ∧ i' = (f + i) % 31) ∧ shR σ c' i' = some s') := by
        intro c' i' s' h1 h2
        rw [shR_s] at h2
        by_cases e : c' = c + 1 ∧ i' = (f + i) % 31
        · rw [if_pos e] at h2
          cases h2
          exact Or.inl ⟨e.1, e.2, rfl⟩
        · rw [if_neg e, (k1 c' (by omega)).2.2] at h2
          exact Or.inr ⟨e, h2⟩
      refine ⟨fun c' i' s' h1 h2 h3 => ?_, fun c1 i1 s1 c2 i2 s2 h1 h2 h3 h4 h5 h6 h7 => ?_⟩
      · rcases g c' i' s' h1 h3 with ⟨-, -, rfl⟩ | ⟨-, h4⟩
        · exact ⟨o1.ext (fun q q1 q2 => ⟨rfl, rfl, fun j => by rw [shR_s, if_neg (by omega)]⟩), by omega⟩
        · obtain ⟨z1, z2⟩ := hs.slz hz h1 h2 h4
          refine ⟨((hs.2.2.1.1 c' i' s' h1 h2 h4).1.ext (σ1 := σ1) (fun q q1 q2 => k1 q (by omega))).ext (fun q q1 q2 => ⟨rfl, rfl, fun j => by rw [shR_s, if_neg (by omega)]⟩), z1⟩
      · rcases g c1 i1 s1 h1 h3 with ⟨a1, a2, rfl⟩ | ⟨a1, a2⟩
        · rcases g c2 i2 s2 h4 h6 with ⟨b1, b2, rfl⟩ | ⟨b1, b2⟩
          · omega
          · have := hs.slz hz h4 h5 b2
            omega
        · have := hs.slz hz h1 h2 a2
          rcases g c2 i2 s2 h4 h6 with ⟨b1, b2, rfl⟩ | ⟨b1, b2⟩
          · omega
          · exact hs.2.2.1.2 c1 i1 s1 c2 i2 s2 h1 h2 a2 h4 h5 b2 h7
    have hp : pot (sR σ1 (c + 1) ((f + i) % 31) (some z)) a + 1 = pot σ a := by
      unfold pot
      rcases hc with rfl | rfl
      · have w1 := nul_eq (σ := σ) (σ1 := sR σ1 (a + 47 + 1) ((f + i) % 31) (some z)) (c := a + 102) 31 (fun j hj => by rw [shR_s, if_neg (by omega), (k1 _ (by omega)).2.2])
        have w2 := nul_set (σ1 := sR σ1 (a + 47 + 1) ((f + i) % 31) (some z)) (c := a + 48) hr (by rw [shR_s, if_pos ⟨rfl, rfl⟩]) (fun j hj => by rw [shR_s, if_neg (by omega), (k1 _ (by omega)).2.2]) 31 hj
        omega
      · have w1 := nul_eq (σ := σ) (σ1 := sR σ1 (a + 101 + 1) ((f + i) % 31) (some z)) (c := a + 48) 31 (fun j hj => by rw [shR_s, if_neg (by omega), (k1 _ (by omega)).2.2])
        have w2 := nul_set (σ1 := sR σ1 (a + 101 + 1) ((f + i) % 31) (some z)) (c := a + 102) hr (by rw [shR_s, if_pos ⟨rfl, rfl⟩]) (fun j hj => by rw [shR_s, if_neg (by omega), (k1 _ (by omega)).2.2]) 31 hj
        omega
    refine ⟨z, sR σ1 (c + 1) ((f + i) % 31) (some z), X1, 17, 947, ?_, ⟨?_, ?_, hSl, ?_⟩, ⟨?_, ?_, ?_, ?_, ?_⟩, by rw [shR_s, if_pos ⟨rfl, rfl⟩]⟩
    · rw [e0, ldQ_n c2 c3 hj hr]
      show adc 1 10 (bndH (f_X5_init (shNew σ z 4 0) (xNew X z) (z + 1) z) _) = _
      rw [e1, bndH_s]
      simp only [ldR, p0, p2, c0, c1, if_true, Option.bind_some]
      rw [stQ_t (r0.trans c2) (r1.trans c3) hj hzK]
      rfl
    · refine hs.1.ext (fun q q1 q2 => ?_)
      obtain ⟨t1, t2, t3⟩ := k1 q (by omega)
      exact ⟨t1, t2, fun h1 h2 j => by rw [shR_s, if_neg (by omega), t3]⟩
    · refine hs.2.1.ext (fun q q1 q2 => ?_)
      obtain ⟨t1, t2, t3⟩ := k1 q (by omega)
      exact ⟨t1, t2, fun j => by rw [shR_s, if_neg (by omega), t3]⟩
    · intro q hq
      rw [shK_s] at hq
      rw [shL_s, hL]
      by_cases h1 : z ≤ q ∧ q ≤ z + 16
      · exact Or.inr h1
      · refine Or.inl (hs.2.2.2 q ?_)
        rw [(n1 q (by omega)).1, shK_n, if_neg (by omega)] at hq
        exact hq
    · intro q hq
      rw [shL_s, hL] at hq
      rcases hq with hq | hq
      · have := hz q hq
        omega
      · omega
    · omega
    · omega
    · intro q hq
      rw [n2 q (by omega), xN_ne (by omega)]
    · intro c' i' s' h1 h2
      rw [shR_s, if_neg (by rintro ⟨rfl, rfl⟩; rw [hr] at h2; cases h2), (k1 c' (by omega)).2.2]
      exact h2
