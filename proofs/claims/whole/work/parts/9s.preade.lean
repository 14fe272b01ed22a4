/-! ===== reading: a line that tells an edit ===== -/
theorem m_sidesb {τ : Sh} {Y : Mx} {m b : Nat} (hm : mdOK τ m) (hb : b ≤ 931) : ∃ Y1, f_X10_sidesBegin τ Y m (nI b) = some Y1 ∧ Y1.2 = Y.2 ∧ (∀ q, q ≠ m + 3 → Y1.1 q = Y.1 q) ∧ (∀ j, (j < b ∨ b + 400 ≤ j) → Y1.1 (m + 3) j = Y.1 (m + 3) j) ∧ (∀ j, j < 200 → Y1.1 (m + 3) (b + j) = Y.1 (m + 3) (b + 400 + j) ∧ Y1.1 (m + 3) (b + 200 + j) = Y.1 (m + 3) (b + 400 + j)) := by
  obtain ⟨m0, m1, m2, m3, m4, m5, m6, m7, m8, m9, m10, m11, m12, m13, m14, m15, m16, m17, mq1, mq2, mq3, mq4, mq5, mq6, mq7, mq8, mq9, mq10, mq11, mq12, mq13, mq14, mq15, mq16, mq17, mn1, mn2, mn3, mn4, mn5, mn6, mn7, mn8, mn9, mn10, mn11, mn12, mn13, mn14, mn15, mn16, mn17⟩ := hm
  obtain ⟨n, S, e, w1, w2, w3, w4⟩ := up_loop (fun n (S : Mx) k => f_X10_sidesBegin_2 τ m (nI b) n S (nI k)) 200 (fun k S => S.2 = Y.2 ∧ (∀ q, q ≠ m + 3 → S.1 q = Y.1 q) ∧ (∀ j, (j < b ∨ b + 400 ≤ j) → S.1 (m + 3) j = Y.1 (m + 3) j) ∧ (∀ j, j < k → S.1 (m + 3) (b + j) = Y.1 (m + 3) (b + 400 + j) ∧ S.1 (m + 3) (b + 200 + j) = Y.1 (m + 3) (b + 400 + j))) (by
    intro n k S hk ⟨h1, h2, h3, h4⟩
    refine ⟨sI (sI S (m + 3) (b + k) (Y.1 (m + 3) (b + 400 + k))) (m + 3) (b + 200 + k) (Y.1 (m + 3) (b + 400 + k)), ?_, h1, fun q hq => by rw [sI_ne hq, sI_ne hq]; exact h2 q hq, fun j hj => by rw [sI_nk (by omega), sI_nk (by omega)]; exact h3 j hj, fun j hj => ?_⟩
    · show f_X10_sidesBegin_2 τ m (nI b) (n + 1) S (nI k) = f_X10_sidesBegin_2 τ m (nI b) n _ (nI (k + 1))
      rw [f_X10_sidesBegin_2]
      simp only [litM]
      rw [if_neg (by rw [n_le (by omega) (by omega)]; omega)]
      simp only [ldR, m0, m3, if_true, Option.bind_some, nI_add]
      rw [ldA_t mq3 (by omega) (by omega), stA_t mq3 (by omega) (by omega), ldA_t mq3 (by omega) (by omega), stA_t mq3 (by omega) (by omega), sI_nk (show b + 400 + k ≠ b + k by omega), h3 _ (by omega)]
    · by_cases q : j = k
      · subst q
        exact ⟨by rw [sI_nk (by omega), sI_eq], sI_eq⟩
      · rw [sI_nk (by omega), sI_nk (by omega), sI_nk (by omega), sI_nk (by omega)]
        exact h4 j (by omega)) FU 0 Y (by omega) ⟨rfl, fun _ _ => rfl, fun _ _ => rfl, fun j hj => absurd hj (Nat.not_lt_zero _)⟩ (by rw [FU_40000]; omega)
  refine ⟨S, ?_, w1, w2, w3, w4⟩
  unfold f_X10_sidesBegin
  simp only [litM]
  rw [grd_t m0]
  refine Eq.trans e ?_
  show f_X10_sidesBegin_2 τ m (nI b) (n + 1) S (nI 200) = _
  rw [f_X10_sidesBegin_2]
  exact if_pos (Int32.le_refl _)
/-- both sides of what is told begin -/
theorem BsR.sides {σ τ : Sh} {X Y : Mx} {tp m nc nr d : Nat} (hp : tpOK σ tp) (hm : mdOK τ m) (hB : BsR X Y tp m nc nr d) : ∃ X1 Y1, f_X5_startSides σ X (tp + 2) = some X1 ∧ f_X10_sidesBegin τ Y m (nI 931) = some Y1 ∧ X1.2 = X.2 ∧ (∀ q, q ≠ tp + 2 → (q < tp + 7 ∨ tp + 14 < q) → q ≠ tp + 18 → X1.1 q = X.1 q) ∧ Y1.2 = Y.2 ∧ (∀ q, q ≠ m + 3 → Y1.1 q = Y.1 q) ∧ (∀ j, j < 931 → Y1.1 (m + 3) j = Y.1 (m + 3) j) ∧ StR X1.1 (tp + 2) (tp + 2 + 5) (tp + 2 + 9) (Y1.1 (m + 3)) 931 := by
  have hS := told_sk hp
  obtain ⟨X1, a1, a2, a3, a4, a5, a6, a7, a8⟩ := c_start (X := X) hS
  obtain ⟨Y1, b1, b2, b3, b4, b5⟩ := m_sidesb (Y := Y) (b := 931) hm (by omega)
  obtain ⟨hT, g1, g2, g3, g4, g5, g6, g7, g8, g9, g10, g11, g12, g13, g14, g15, g16⟩ := hB
  refine ⟨X1, Y1, a1, b1, a2, fun q c1 c2 c3 => a3 q c1 (by omega) (by omega), b2, b3, fun j hj => b4 j (by omega), ?_⟩
  have e : ∀ i, i < 4 → X1.1 (tp + 2 + 1 + i) = X.1 (tp + 2 + 1 + i) := fun i hi => a3 _ (by omega) (by omega) (by omega)
  have w : ∀ j, 1331 ≤ j → Y1.1 (m + 3) j = Y.1 (m + 3) j := fun j hj => b4 j (by omega)
  have hL : ∀ t o, (t = tp + 2 + 5 ∨ t = tp + 2 + 9) → (o = 931 ∨ o = 1131) → TabR X1.1 t (Y1.1 (m + 3)) o := fun t o ht ho => by
    obtain ⟨c1, c2, c3, c4, c5⟩ := a7 t ht
    refine hT.mv c1 c2 c3 c4 c5 (fun j hj => ?_)
    rcases ho with rfl | rfl
    · exact (b5 j hj).1
    · exact (b5 j hj).2
  have hb : ∀ t, (t = tp + 2 + 5 ∨ t = tp + 2 + 9) → ∀ c, 5 ≤ c → bt (X1.1 t 0) c = false := fun t ht c hc => by
    rw [(a7 t ht).1, g1]; exact decide_eq_false (by omega)
  refine ⟨hL _ _ (Or.inl rfl) (Or.inl rfl), hL _ _ (Or.inr rfl) (Or.inr rfl), ?_, ?_, ⟨hb _ (Or.inl rfl) 7 (by omega), hb _ (Or.inl rfl) 8 (by omega)⟩, ⟨hb _ (Or.inr rfl) 5 (by omega), hb _ (Or.inr rfl) 6 (by omega)⟩, ⟨d, g10, by rw [a4 5 (by omega) (by omega)]; exact g11, by rw [w _ (by omega)]; exact g12, fun i hi => ?_⟩, ⟨0, by omega, a5, by rw [w _ (by omega)]; exact g14, fun j _ _ => hb _ (Or.inl rfl) _ (by omega)⟩, ⟨0, by omega, a6, by rw [w _ (by omega)]; exact g15, fun j _ _ => hb _ (Or.inr rfl) _ (by omega)⟩, fun i hi => ?_⟩
  · exact hT.fr (fun q c1 c2 => a3 q (by omega) (by omega) (by omega)) (fun j c1 c2 => w j (by omega))
  · rw [show X1.1 (tp + 2 + 1) = X.1 (tp + 2 + 1) from e 0 (by omega)]
    intro c hc
    rw [g1]; exact decide_eq_false (by omega)
  · obtain ⟨kd, f, q, r1, r2, r3, r4, r5, r6, r7, r8, r9, r10⟩ := g13 i hi
    exact ⟨kd, f, q, r1, r2, r3, by rw [a3 _ (by omega) (by omega) (by omega)]; exact r4, by rw [a3 _ (by omega) (by omega) (by omega)]; exact r5, by rw [a3 _ (by omega) (by omega) (by omega)]; exact r6, by rw [w _ (by omega)]; exact r7, by rw [w _ (by omega)]; exact r8, fun e => by rw [w _ (by omega)]; exact r9 e, r10⟩
  · rw [a8 i hi, w _ (by omega), g16 i hi]
    exact ⟨rfl, Or.inl rfl, fun _ _ => rfl⟩
theorem e177_d {σ τ : Sh} {X : Mx} {tp m e : Nat} {β : Nat → Nat} {s p v a b c : Int32} (hp : tpOK σ tp) (hm : mdOK τ m) (h : RdC X tp e β) (hf : ¬ X.1 tp 4 = nI 0) : ∃ X1, f_X7_readEdit_177 σ tp s p v a b c X = some X1 ∧ CD X X1 tp e β := by
  obtain ⟨X1, b1, b2⟩ := semi_d hp hm h hf
  refine ⟨X1, ?_, b2⟩
  unfold f_X7_readEdit_177
  simp only [litM]
  rw [b1, Option.bind_some, ldI_t hp.1, if_neg (by rw [b2.2.2.1]; exact hf)]
section DEADREF
variable {τ : Sh} {Y : Mx} {m : Nat}
theorem r228_d {a b c d e f : Int32} (hm : mdOK τ m) (h : ¬ Y.1 m 3 = nI 0) : f_X10_readsEdit_228 τ m a b c d e f Y = some Y := by
  unfold f_X10_readsEdit_228
  simp only [litM]
  rw [m_good_f hm h, Option.bind_some, if_pos rfl]
theorem r205_d {a b c d e f : Int32} (hm : mdOK τ m) (h : ¬ Y.1 m 3 = nI 0) : f_X10_readsEdit_205 τ m a b c d e Y f = some Y := by
  unfold f_X10_readsEdit_205
  simp only [litM]
  rw [m_good_f hm h, Option.bind_some, if_pos rfl, r228_d hm h]
theorem cellOf_d (hm : mdOK τ m) (h : ¬ Y.1 m 3 = nI 0) : f_X10_cellOf τ Y m = some (nI 0, Y) := by
  unfold f_X10_cellOf
  simp only [litM]
  rw [grd_t hm.1, m_good_f hm h, Option.bind_some, if_pos rfl]
theorem typeOf_d (hm : mdOK τ m) (h : ¬ Y.1 m 3 = nI 0) : f_X10_typeOf τ Y m = some (nI 0, Y) := by
  unfold f_X10_typeOf
  simp only [litM]
  rw [grd_t hm.1, m_good_f hm h, Option.bind_some, if_pos rfl]
theorem numOf_d {x : Int32} (hm : mdOK τ m) (h : ¬ Y.1 m 3 = nI 0) : f_X10_number τ Y m x = some (nI 0, Y) := by
  unfold f_X10_number f_X10_numberHere
  simp only [litM]
  rw [grd_t hm.1, grd_t hm.1, m_good_f hm h, Option.bind_some, if_pos rfl, bnd2_k, m_good_f hm h, Option.bind_some, if_pos rfl]
theorem nameOf_d (hm : mdOK τ m) (h : ¬ Y.1 m 3 = nI 0) : ∃ v, f_X10_nameHere τ Y m = some (v, Y) := by
  unfold f_X10_nameHere f_X10_nameHere_28
  simp only [litM]
  rw [grd_t hm.1, m_good_f hm h, Option.bind_some, if_pos rfl, ldJ_t hm.1]
  exact ⟨_, rfl⟩
theorem r191_d {a b c d e : Int32} (hm : mdOK τ m) (h : ¬ Y.1 m 3 = nI 0) : f_X10_readsEdit_191 τ m a b c d e Y = some Y := by
  unfold f_X10_readsEdit_191
  simp only [litM]
  rw [cellOf_d hm h, bnd2_k, r205_d hm h]
  split <;> rfl
theorem r172_d {a b c d e : Int32} (hm : mdOK τ m) (h : ¬ Y.1 m 3 = nI 0) : f_X10_readsEdit_172 τ m a b c d Y e = some Y := by
  unfold f_X10_readsEdit_172
  simp only [litM]
  rw [m_good_f hm h, Option.bind_some, if_pos (show nI 0 = nI 0 from rfl), r191_d hm h]
  split <;> rfl
theorem r123_d {a b c d : Int32} (hm : mdOK τ m) (h : ¬ Y.1 m 3 = nI 0) : f_X10_readsEdit_123 τ m a b c d Y = some Y := by
  obtain ⟨v, ev⟩ := nameOf_d hm h
  unfold f_X10_readsEdit_123 f_X10_readsEdit_164
  simp only [litM]
  rw [numOf_d hm h, bnd2_k, ev, bnd2_k, typeOf_d hm h, bnd2_k, r172_d hm h, r172_d hm h]
  split
  · rfl
  · split
    · rfl
    · split
      · rfl
      · split <;> rfl
theorem r104_d {a b c d : Int32} (hm : mdOK τ m) (h : ¬ Y.1 m 3 = nI 0) : f_X10_readsEdit_104 τ m a b c Y d = some Y := by
  unfold f_X10_readsEdit_104
  simp only [litM]
  rw [m_good_f hm h, Option.bind_some, if_pos (show nI 0 = nI 0 from rfl), r123_d hm h]
  split <;> rfl
end DEADREF
