/-! ===== acts copied ===== -/
theorem StC.fr {X X1 Z Z1 : Nat → Nat → Int32} {s t : Nat} (h : StC X s (s + 5) (s + 9) Z t (t + 5) (t + 9)) (hX : ∀ q, s ≤ q → q ≤ s + 16 → X1 q = X q) (hZ : ∀ q, t ≤ q → q ≤ t + 16 → Z1 q = Z q) : StC X1 s (s + 5) (s + 9) Z1 t (t + 5) (t + 9) := by
  obtain ⟨h1, h2, h3, h4, h5, h6, h7, h8⟩ := h
  unfold StC
  rw [hX s (by omega) (by omega), hX (s + 13) (by omega) (by omega), hX (s + 14) (by omega) (by omega), hX (s + 15) (by omega) (by omega), hX (s + 16) (by omega) (by omega), hZ t (by omega) (by omega), hZ (t + 13) (by omega) (by omega), hZ (t + 14) (by omega) (by omega), hZ (t + 15) (by omega) (by omega), hZ (t + 16) (by omega) (by omega)]
  refine ⟨fun p q hpq => ?_, h2, h3, h4, h5, h6, h7, h8⟩
  rw [hX p (by omega) (by omega), hX (p + 1) (by omega) (by omega), hX (p + 2) (by omega) (by omega), hX (p + 3) (by omega) (by omega), hZ q (by omega) (by omega), hZ (q + 1) (by omega) (by omega), hZ (q + 2) (by omega) (by omega), hZ (q + 3) (by omega) (by omega)]
  exact h1 p q hpq
theorem cpy_loop {a L R c c' fd fs k : Nat} (hcc : (c = a + 47 ∧ c' = a + 101) ∨ (c = a + 101 ∧ c' = a + 47)) (hfd : fd < 31) (hfs : fs < 31) (hk : k ≤ 30) : ∀ (r i n : Nat) (σ : Sh) (X : Mx) (z : Nat), i + r = k → r < n → IVs σ a L R → (∀ q ∈ shL σ, q < z) → X.1 c 1 = nI fd → X.1 c 2 = nI k → X.1 c' 1 = nI fs → (∀ j, j < k → ∃ s, shR σ (c' + 1) ((fs + j) % 31) = some s) →
    ∃ σ1 X1 kk d, f_X0_copyFrom_10 c c' n σ X z (nI i) = some ((), σ1, X1, kk, d) ∧ IVs σ1 a L R ∧ kk + 17 * pot σ1 a ≤ 17 * pot σ a ∧ d + 947 * pot σ1 a ≤ 947 * pot σ a ∧ (∀ q, q ≤ a + 126 → X1.1 q = X.1 q) ∧ (∀ b j s, (b = a + 48 ∨ b = a + 102) → shR σ b j = some s → shR σ1 b j = some s) ∧
      (∀ b j s, (b = a + 48 ∨ b = a + 102) → j < 31 → shR σ b j = some s → (b = c + 1 → ∀ i', i ≤ i' → i' < k → j ≠ (fd + i') % 31) → ∀ q, s ≤ q → q ≤ s + 16 → X1.1 q = X.1 q) ∧
      (∀ j, i ≤ j → j < k → ∃ t s, shR σ1 (c + 1) ((fd + j) % 31) = some t ∧ shR σ (c' + 1) ((fs + j) % 31) = some s ∧ StC X.1 s (s + 5) (s + 9) X1.1 t (t + 5) (t + 9)) := by
  intro r
  induction r with
  | zero =>
    intro i n σ X z hi hn hs hz h1 h2 h3 h4
    obtain ⟨n, rfl⟩ : ∃ n', n = n' + 1 := ⟨n - 1, by omega⟩
    have c0 : shK σ c = 0 := by
      rcases hcc with ⟨rfl, -⟩ | ⟨rfl, -⟩
      · exact hs.1.2.2.2.1.1
      · exact hs.1.2.2.2.2.2.2.2.1.1
    refine ⟨σ, X, 0, 0, ?_, hs, by omega, by omega, fun _ _ => rfl, fun _ _ _ _ h => h, fun _ _ _ _ _ _ _ _ _ _ => rfl, fun j j1 j2 => by omega⟩
    rw [f_X0_copyFrom_10, ldI_t c0, h2, if_pos (by rw [n_le (by omega) (by omega)]; omega)]
  | succ r ih =>
    intro i n σ X z hi hn hs hz h1 h2 h3 h4
    obtain ⟨n, rfl⟩ : ∃ n', n = n' + 1 := ⟨n - 1, by omega⟩
    have c0 : shK σ c = 0 := by
      rcases hcc with ⟨rfl, -⟩ | ⟨rfl, -⟩
      · exact hs.1.2.2.2.1.1
      · exact hs.1.2.2.2.2.2.2.2.1.1
    have hT := hs.top hz
    obtain ⟨t, σ2, X2, kk, d, es, hs2, ⟨g1, g2, g3, g4, g5⟩, hr⟩ := slot (c := c) (f := fd) (i := i) hs hz (by omega) hfd (by omega) h1
    obtain ⟨s, hss⟩ := h4 i (by omega)
    have hss2 := g5 (c' + 1) _ s (by omega) hss
    have m1 : (fd + i) % 31 < 31 := Nat.mod_lt _ (by omega)
    have m2 : (fs + i) % 31 < 31 := Nat.mod_lt _ (by omega)
    have es2 := slot_at (X := X2) (z := z + kk) (c := c') (f := fs) (i := i) hs2 (by omega) hfs (by omega) (by rw [g4 _ (by omega)]; exact h3) hss2
    obtain ⟨to, ta⟩ := hs2.2.2.1.1 (c + 1) _ t (by omega) m1 hr
    obtain ⟨so, sa⟩ := hs2.2.2.1.1 (c' + 1) _ s (by omega) m2 hss2
    have sz := hs.slz hz (show c' + 1 = a + 48 ∨ c' + 1 = a + 102 by omega) m2 hss
    have dj := hs2.2.2.1.2 (c + 1) _ t (c' + 1) _ s (by omega) m1 hr (by omega) m2 hss2 (Or.inl (by omega))
    obtain ⟨Z, ez, zf, zc⟩ := st_copy (X := X2) to so (by omega)
    have hZ : ∀ q, q ≤ a + 126 → Z.1 q = X.1 q := fun q hq => by rw [zf.2 q (by omega), g4 q (by omega)]
    have hB : ∀ b j s', (b = a + 48 ∨ b = a + 102) → j < 31 → shR σ b j = some s' → (b ≠ c + 1 ∨ j ≠ (fd + i) % 31) → ∀ q, s' ≤ q → q ≤ s' + 16 → Z.1 q = X.1 q := by
      intro b j s' b1 b2 b3 b4 q q1 q2
      obtain ⟨z1, z2⟩ := hs.slz hz b1 b2 b3
      have := hs2.2.2.1.2 b j s' (c + 1) _ t b1 b2 (g5 b j s' b1 b3) (by omega) m1 hr b4
      rw [zf.2 q (by omega), g4 q (by omega)]
    obtain ⟨σ1, X1, k1, d1, e1, hs1, w1, w2, w3, w4, w5, w6⟩ := ih (i + 1) n σ2 Z (z + kk) (by omega) (by omega) hs2 g1 (by rw [hZ _ (by omega)]; exact h1) (by rw [hZ _ (by omega)]; exact h2) (by rw [hZ _ (by omega)]; exact h3) (fun j hj => by
      obtain ⟨s', hs'⟩ := h4 j hj
      exact ⟨s', g5 _ _ _ (by omega) hs'⟩)
    have hX1t : ∀ q, t ≤ q → q ≤ t + 16 → X1.1 q = Z.1 q := w5 (c + 1) _ t (by omega) m1 hr (fun _ i' i1 i2 => by omega)
    refine ⟨σ1, X1, k1 + kk, d1 + d, ?_, hs1, by omega, by omega, fun q hq => by rw [w3 q hq, hZ q hq], fun b j s' b1 b2 => w4 b j s' b1 (g5 b j s' b1 b2), ?_, ?_⟩
    · rw [f_X0_copyFrom_10, ldI_t c0, h2, if_neg (by rw [n_le (by omega) (by omega)]; omega), es, bndH_s, es2, bndH_s, ez, Option.bind_some]
      simp only [litM, nI_add, Nat.add_zero]
      rw [e1, adc_some, adc_some]
      simp only [Nat.add_zero]
    · intro b j s' b1 b2 b3 b4 q q1 q2
      rw [w5 b j s' b1 b2 (g5 b j s' b1 b3) (fun e i' i1 i2 => b4 e i' (by omega) i2) q q1 q2]
      refine hB b j s' b1 b2 b3 ?_ q q1 q2
      by_cases e : b = c + 1
      · exact Or.inr (b4 e i (by omega) (by omega))
      · exact Or.inl e
    · intro j j1 j2
      by_cases e : j = i
      · subst e
        refine ⟨t, s, w4 _ _ _ (by omega) hr, hss, ?_⟩
        exact zc.fr (fun q q1 q2 => (g4 q (by omega)).symm) hX1t
      · obtain ⟨t', s', u1, u2, u3⟩ := w6 j (by omega) j2
        obtain ⟨s'', hs''⟩ := h4 j j2
        have e2 := g5 (c' + 1) _ s'' (by omega) hs''
        rw [u2] at e2
        cases e2
        refine ⟨t', s', u1, hs'', u3.fr (fun q q1 q2 => ?_) (fun _ _ _ => rfl)⟩
        exact (hB (c' + 1) _ s' (by omega) (Nat.mod_lt _ (by omega)) hs'' (Or.inl (by omega)) q q1 q2).symm
theorem m_copies {τ : Sh} {Y : Mx} {m b1 b2 N : Nat} (hm : shK τ m = 8) (k1 : shK τ b1 = 10) (k2 : shK τ b2 = 10) (n1 : shN τ b1 = N) (n2 : shN τ b2 = N) (hN : N < 30000) (hb : b1 ≠ b2) : f_X10_copies τ Y m b1 b2 = some (wF Y b2 (fun j => if 0 ≤ j ∧ j < 0 + N then Y.1 b1 (0 + (j - 0)) else Y.1 b2 j)) := by
  obtain ⟨n, e⟩ := cp_loop (F := fun n s k => f_X10_copies_2 τ b1 b2 n s (nI k)) (Y := Y) (a := b2) (a' := b1) (off := 0) (src := 0) (N := N) (Or.inl hb) (by
    intro n s k hk
    show f_X10_copies_2 τ b1 b2 (n + 1) s (nI k) = f_X10_copies_2 τ b1 b2 n _ (nI (k + 1))
    rw [f_X10_copies_2, lenA_t k1, n1, if_neg (by rw [n_le (by omega) (by omega)]; omega), ldA_t k1 (by omega) (by omega), stA_t k2 (by omega) (by omega), Nat.zero_add]
    simp only [litM, nI_add]) (by rw [FU_40000]; omega)
  unfold f_X10_copies
  rw [grd_t hm]
  refine Eq.trans (show _ = f_X10_copies_2 τ b1 b2 FU Y (nI 0) from rfl) (Eq.trans e ?_)
  show f_X10_copies_2 τ b1 b2 (n + 1) _ (nI N) = _
  rw [f_X10_copies_2, lenA_t k1, n1]
  exact if_pos (Int32.le_refl _)
