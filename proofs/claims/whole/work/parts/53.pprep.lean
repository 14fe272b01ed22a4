/-! ===== an act prepared ===== -/
theorem nI_inj {a b : Nat} (ha : a < 2 ^ 31) (hb : b < 2 ^ 31) (h : nI a = nI b) : a = b := (nI_eq ha hb).mp h
theorem ActsR.grow {σ σ1 : Sh} {X X1 : Nat → Nat → Int32} {c kp : Nat} {ac : Int32} (h : ActsR σ X c ac kp) (hp : ∀ i s, shR σ (c + 1) i = some s → shR σ1 (c + 1) i = some s) (h1 : X1 c = X c) (h4 : X1 kp = X kp)
    (hb : ∀ k f i s, X c 2 = nI k → X c 1 = nI f → i < k → k ≤ 30 → f < 31 → shR σ (c + 1) ((f + i) % 31) = some s → ∀ q, s ≤ q → q ≤ s + 16 → X1 q = X q) : ActsR σ1 X1 c ac kp := by
  obtain ⟨k, f, a1, a2, a3, a4, a5, a6⟩ := h
  refine ⟨k, f, a1, a2, by rw [h1]; exact a3, a4, by rw [h1]; exact a5, fun i hi => ?_⟩
  obtain ⟨s, b1, b2⟩ := a6 i hi
  rw [h4]
  exact ⟨s, hp _ _ b1, b2.fr (Or.inl ⟨rfl, rfl⟩) (fun q q1 q2 => hb k f i s a3 a5 hi a1 a2 b1 q q1 q2) (fun _ _ => rfl)⟩
/-- all but the acts -/
theorem IVc.grow {σ σ1 : Sh} {X X1 : Nat → Nat → Int32} {a L R : Nat} (hs : IVs σ a L R) (h : IVc σ X a L R) (hq : ∀ q, q ≤ a + 126 → X1 q = X q) (h1 : ActsR σ X (a + 47) (X (a + 108) 19) (a + 112) → ActsR σ1 X1 (a + 47) (X (a + 108) 19) (a + 112)) (h2 : ActsR σ X (a + 101) (X (a + 108) 36) (a + 124) → ActsR σ1 X1 (a + 101) (X (a + 108) 36) (a + 124)) : IVc σ1 X1 a L R := by
  obtain ⟨c1, c2, c3, c4, ⟨c5, c6⟩, ⟨f, c7, c8⟩, c9, c10⟩ := h
  have lr := hs.2.1.lr
  unfold IVc
  rw [hq (a + 111) (by omega), hq (a + 108) (by omega), hq a (by omega), hq (a + 101) (by omega), hq (a + 107) (by omega), hq (a + 110) (by omega), hq (a + 123) (by omega)]
  refine ⟨c1.fr lr (fun q q1 q2 => hq q (by omega)) (fun _ _ => rfl), c2.fr (by rw [hq _ (by omega)]) (by rw [hq _ (by omega)]) (hq _ (by omega)) (hq _ (by omega)), h1 c3, c4.fr (hq _ (by omega)) (hq _ (by omega)) (hq _ (by omega)) (hq _ (by omega)) rfl (hq _ (by omega)), ⟨c5, c6.imp_right (fun ⟨d1, d2, d3, d4⟩ => ⟨d1, d2.fr (Or.inl ⟨rfl, rfl⟩) (fun q q1 q2 => hq q (by omega)) (fun _ _ => rfl), h2 d3, d4.fr (hq _ (by omega)) (hq _ (by omega)) (hq _ (by omega)) (hq _ (by omega)) rfl (hq _ (by omega))⟩)⟩, ⟨f, c7, c8⟩, c9, c10⟩
def PrepR (σ : Sh) (X : Nat → Nat → Int32) (a : Nat) : Prop := ∃ k f s, k ≤ 30 ∧ f < 31 ∧ X (a + 47) 2 = nI k ∧ X (a + 47) 1 = nI f ∧ shR σ (a + 48) ((f + k) % 31) = some s ∧ StR X s (s + 5) (s + 9) (X (a + 111)) 0
theorem prepare {σ : Sh} {X : Mx} {a L R z : Nat} (h : IV σ X a L R) (hz : ∀ q ∈ shL σ, q < z) : ∃ σ1 X1 k d, f_X0_prepare σ X z (a + 47) (a + 1) = some ((), σ1, X1, k, d) ∧ IV σ1 X1 a L R ∧ PrepR σ1 X1.1 a ∧ k + 17 * pot σ1 a ≤ 17 * pot σ a ∧ d + 947 * pot σ1 a ≤ 947 * pot σ a ∧ (∀ q, q ≤ a + 126 → X1.1 q = X.1 q) := by
  obtain ⟨hs, hc, hm, hq⟩ := h
  obtain ⟨k, f, hk, hf, e2, e3, e1, e6⟩ := id hc.2.2.1
  have hT := hs.top hz
  obtain ⟨s, σ1, X1, kk, d, es, hs1, ⟨g1, g2, g3, g4, g5⟩, hr⟩ := slot (i := k) hs hz (Or.inl rfl) hf (by omega) e1
  have hj : (f + k) % 31 < 31 := Nat.mod_lt _ (by omega)
  obtain ⟨so, sa⟩ := hs1.2.2.1.1 (a + 48) _ s (Or.inl rfl) hj hr
  obtain ⟨Z, ez, zf, zc⟩ := st_copy (X := X1) so hs1.2.1 (Or.inr (by omega))
  have ac0 : shK σ (a + 47) = 0 := hs.1.2.2.2.1.1
  have hZ : ∀ q, q ≤ a + 126 → Z.1 q = X.1 q := fun q hq => (zf.2 q (by omega)).trans (g4 q (by omega))
  have hB : ∀ c i s', (c = a + 48 ∨ c = a + 102) → i < 31 → shR σ c i = some s' → (c ≠ a + 48 ∨ i ≠ (f + k) % 31) → ∀ q, s' ≤ q → q ≤ s' + 16 → Z.1 q = X.1 q := by
    intro c i s' h1 h2 h3 h4 q q1 q2
    obtain ⟨z1, z2⟩ := hs.slz hz h1 h2 h3
    have := hs1.2.2.1.2 c i s' (a + 48) _ s h1 h2 (g5 c i s' h1 h3) (Or.inl rfl) hj hr h4
    exact (zf.2 q (by omega)).trans (g4 q (by omega))
  have lr := hs.2.1.lr
  refine ⟨σ1, Z, kk, d, ?_, ⟨hs1, ?_, ?_, ?_⟩, ⟨k, f, s, hk, hf, ?_, ?_, hr, ?_⟩, g2, g3, hZ⟩
  · unfold f_X0_prepare
    rw [grd_t ac0, ldI_t ac0, e2, es, bndH_s, ez]
    show some ((), σ1, Z, 0 + kk, 0 + d) = _
    rw [Nat.zero_add, Nat.zero_add]
  · refine hc.grow hs hZ (fun w => w.grow (fun i s h => g5 (a + 48) i s (Or.inl rfl) h) (hZ _ (by omega)) (hZ _ (by omega)) ?_) (fun w => w.grow (fun i s h => g5 (a + 102) i s (Or.inr rfl) h) (hZ _ (by omega)) (hZ _ (by omega)) ?_)
    · intro k' f' i s' h1 h2 h3 h4 h5 h6 q q1 q2
      have hk' : k' = k := nI_inj (by omega) (by omega) (h1.symm.trans e2)
      have hf' : f' = f := nI_inj (by omega) (by omega) (h2.symm.trans e1)
      subst hk' hf'
      exact hB (a + 48) _ s' (Or.inl rfl) (Nat.mod_lt _ (by omega)) h6 (Or.inr (by omega)) q q1 q2
    · intro k' f' i s' h1 h2 h3 h4 h5 h6 q q1 q2
      exact hB (a + 102) _ s' (Or.inr rfl) (Nat.mod_lt _ (by omega)) h6 (Or.inl (by omega)) q q1 q2
  · exact hm.fr (by omega) (by rw [hZ a (by omega)]) (fun q q1 q2 => hZ q (by omega)) (fun j _ => by rw [hZ _ (by omega)])
  · exact hq.fr (hZ _ (by omega)) (hZ _ (by omega)) (fun j _ => by rw [hZ _ (by omega)]) (by rw [hZ _ (by omega)]) (fun j _ => by rw [hZ _ (by omega)])
  · rw [hZ _ (by omega)]; exact e2
  · rw [hZ _ (by omega)]; exact e1
  · rw [hZ (a + 111) (by omega)]
    refine (hc.1.fr (X1 := X1.1) lr (fun q q1 q2 => g4 q (by omega)) (fun _ _ => rfl)).cp zc (fun j _ => rfl)
