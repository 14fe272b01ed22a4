theorem chF_ok {j : Nat} {v : Int32} (h : chOK v) : chOK (chF j v) := by
  unfold chF
  rcases h with rfl | rfl | rfl | rfl
  · rw [if_pos (by decide)]; exact Or.inl rfl
  · rw [if_pos (by decide)]; exact Or.inr (Or.inl rfl)
  · rw [if_neg (by decide)]
    split
    · exact Or.inr (Or.inr (Or.inr (by decide)))
    · exact Or.inr (Or.inr (Or.inl rfl))
  · rw [if_neg (by decide)]
    split
    · exact Or.inr (Or.inr (Or.inl (by decide)))
    · exact Or.inr (Or.inr (Or.inr rfl))
theorem chF_m {j : Nat} : chF j (-(nI 1)) = -(nI 1) := by unfold chF; rw [if_pos (by decide)]
theorem cf_eq : ∀ j, j < 316 → cfl j < 316 ∧ cfM j < 316 ∧ (cfl j = cfM j ∨ (j < 27 ∧ 5 ≤ j % 9 ∧ cfl j = j ∧ cfM j < 27 ∧ 5 ≤ cfM j % 9)) := by decide +kernel
theorem ch_flip {C C1 W W1 : Nat → Int32} (cs : ∀ i, i < 316 → C i = W i ∧ chOI i (C i)) (c1 : ∀ j, j < 316 → C1 j = chF j (C (cfl j))) (w1 : ∀ j, j < 316 → W1 j = chF j (W (cfM j))) : ∀ i, i < 316 → C1 i = W1 i ∧ chOI i (C1 i) := by
  intro i hi
  obtain ⟨h1, h2, h3⟩ := cf_eq i hi
  have e : C1 i = W1 i := by
    rw [c1 i hi, w1 i hi]
    rcases h3 with h3 | ⟨h3, h4, h5, h6, h7⟩
    · rw [h3, (cs _ h2).1]
    · rw [h5, (cs i hi).2.2 h3 h4, ← (cs _ h2).1, (cs _ h2).2.2 h6 h7]
  refine ⟨e, by rw [c1 i hi]; exact chF_ok (cs _ h1).2.1, fun a1 a2 => ?_⟩
  rw [c1 i hi]
  have hc : cfl i = i := by unfold cfl; rw [if_pos a1]
  rw [hc, (cs i hi).2.2 a1 a2, chF_m]
