/-! ===== feed ===== -/
theorem IV.tape {σ : Sh} {X Z : Mx} {a L R : Nat} (h : IV σ X a L R) (hq : ∀ q, q ≠ a + 28 → q ≠ a + 29 → q ≠ a + 109 → q ≠ a + 108 → Z.1 q = X.1 q) (hm : ∀ j, j ≠ 0 → j ≠ 2 → Z.1 (a + 108) j = X.1 (a + 108) j) (hS : TapeR Z.1 (a + 28) (a + 108)) : IV σ Z a L R := by
  obtain ⟨hs, ⟨c1, c2, c3, c4, ⟨c5, c6⟩, ⟨f, c7, c8⟩, c9, c10⟩, hM, hQ⟩ := h
  have lr := hs.2.1.lr
  have Q := hq
  refine ⟨hs, ⟨c1.fr lr (fun q q1 q2 => Q q (by omega) (by omega) (by omega) (by omega)) (fun j hj => by rw [Q _ (by omega) (by omega) (by omega) (by omega)]), hS, c3.fr (Or.inl rfl) hs.2.2.1 (by rw [Q _ (by omega) (by omega) (by omega) (by omega)]) (by rw [Q _ (by omega) (by omega) (by omega) (by omega)]) (hm 19 (by omega) (by omega)) (Q _ (by omega) (by omega) (by omega) (by omega)) (fun q h => Q q (by omega) (by omega) (by omega) (by omega)), c4.fr (Q _ (by omega) (by omega) (by omega) (by omega)) (Q _ (by omega) (by omega) (by omega) (by omega)) (Q _ (by omega) (by omega) (by omega) (by omega)) (Q _ (by omega) (by omega) (by omega) (by omega)) (hm 32 (by omega) (by omega)) (Q _ (by omega) (by omega) (by omega) (by omega)), ⟨by rw [Q a (by omega) (by omega) (by omega) (by omega), hm 35 (by omega) (by omega)]; exact c5, ?_⟩, ⟨f, c7, by rw [Q _ (by omega) (by omega) (by omega) (by omega)]; exact c8⟩, fun i hi => by rw [Q (a + 107) (by omega) (by omega) (by omega) (by omega), Q (a + 110) (by omega) (by omega) (by omega) (by omega)]; exact c9 i hi, by rw [Q a (by omega) (by omega) (by omega) (by omega), hm 4 (by omega) (by omega)]; exact c10⟩, hM.fr hs.lr (by rw [Q a (by omega) (by omega) (by omega) (by omega)]) (fun q h1 h2 => Q q (by omega) (by omega) (by omega) (by omega)) (fun j hj => by rw [Q _ (by omega) (by omega) (by omega) (by omega)]), hQ.fr (Q _ (by omega) (by omega) (by omega) (by omega)) (Q _ (by omega) (by omega) (by omega) (by omega)) (fun j hj => by rw [Q _ (by omega) (by omega) (by omega) (by omega)]) (hm 32 (by omega) (by omega)) (fun j _ => by rw [Q _ (by omega) (by omega) (by omega) (by omega)])⟩
  rw [Q a (by omega) (by omega) (by omega) (by omega)]
  refine c6.imp_right (fun ⟨d1, d2, d3, d4⟩ => ⟨d1, ?_, ?_, ?_⟩)
  · rw [Q (a + 123) (by omega) (by omega) (by omega) (by omega)]
    exact d2.fr (Or.inl ⟨rfl, rfl⟩) (fun q h1 h2 => Q q (by omega) (by omega) (by omega) (by omega)) (fun _ _ => rfl)
  · exact d3.fr (Or.inr rfl) hs.2.2.1 (by rw [Q _ (by omega) (by omega) (by omega) (by omega)]) (by rw [Q _ (by omega) (by omega) (by omega) (by omega)]) (hm 36 (by omega) (by omega)) (Q _ (by omega) (by omega) (by omega) (by omega)) (fun q h => Q q (by omega) (by omega) (by omega) (by omega))
  · exact d4.fr (Q _ (by omega) (by omega) (by omega) (by omega)) (Q _ (by omega) (by omega) (by omega) (by omega)) (Q _ (by omega) (by omega) (by omega) (by omega)) (Q _ (by omega) (by omega) (by omega) (by omega)) (hm 37 (by omega) (by omega)) (Q _ (by omega) (by omega) (by omega) (by omega))
theorem and255 (v : Int32) : v.toInt8.toInt32 &&& nI 255 = v &&& nI 255 := by
  have h : ∀ i, i < 32 → (255#32).getLsbD i = decide (i < 8) := by decide
  refine Int32.toBitVec_inj.1 (BitVec.eq_of_getLsbD_eq fun i hi => ?_)
  show ((v.toBitVec.signExtend 8).signExtend 32 &&& 255#32).getLsbD i = (v.toBitVec &&& 255#32).getLsbD i
  rw [BitVec.getLsbD_and, BitVec.getLsbD_and, h i hi]
  by_cases h8 : i < 8
  · rw [BitVec.getLsbD_signExtend, BitVec.getLsbD_signExtend]
    simp [h8, hi]
  · simp [h8]
theorem to8_to8 (v : Int32) : (v.toInt8.toInt32).toInt8.toInt32 = v.toInt8.toInt32 := by
  rw [Int8.toInt8_toInt32]
def by8 (x : Int32) (i : Nat) : Int32 := x >>> (nI (24 - 8 * i) &&& nI 31)
theorem stB_t {ρ : Type} {σ : Sh} {X : Mx} {a i : Nat} {v : Int32} {cont : Mx → Option ρ} (h : shK σ a = 9) (hi : i < shN σ a) (hb : shN σ a < 2 ^ 31) : stB σ X 9 a (nI i) v cont = cont (sI X a i v.toInt8.toInt32) := by
  unfold stB; rw [if_pos ⟨h, nI_in hi hb⟩, nI_clamp (by omega)]
theorem st8 : nI 24 + -(nI 8) = nI 16 ∧ nI 16 + -(nI 8) = nI 8 ∧ nI 8 + -(nI 8) = nI 0 ∧ nI 0 + -(nI 8) = -(nI 8) ∧ (-(nI 8) < nI 0) := by decide
/-- four bytes laid at t -/
def L4 (X X1 : Mx) (p f b t : Nat) (g : Nat → Int32) : Prop := X1.2 = X.2 ∧ (∀ q, q ≠ p → q ≠ b → X1.1 q = X.1 q) ∧ (∀ j, j ≠ f → X1.1 p j = X.1 p j) ∧ X1.1 p f = nI (t + 4) ∧ (∀ j, j < t → X1.1 b j = X.1 b j) ∧ (∀ i, i < 4 → X1.1 b (t + i) = g i)
theorem L4.of {X : Mx} {p f b t : Nat} {g : Nat → Int32} (hpb : p ≠ b) : L4 X (sI (sI (sI (sI (sI (sI (sI (sI X b t (g 0)) p f (nI (t + 1))) b (t + 1) (g 1)) p f (nI (t + 1 + 1))) b (t + 1 + 1) (g 2)) p f (nI (t + 1 + 1 + 1))) b (t + 1 + 1 + 1) (g 3)) p f (nI (t + 1 + 1 + 1 + 1))) p f b t g := by
  have hbp : b ≠ p := fun e => hpb e.symm
  refine ⟨rfl, fun q q1 q2 => ?_, fun j hj => ?_, sI_eq, fun j hj => ?_, fun i hi => ?_⟩
  · rw [sI_ne q1, sI_ne q2, sI_ne q1, sI_ne q2, sI_ne q1, sI_ne q2, sI_ne q1, sI_ne q2]
  · rw [sI_nk hj, sI_na hpb, sI_nk hj, sI_na hpb, sI_nk hj, sI_na hpb, sI_nk hj, sI_na hpb]
  · rw [sI_na hbp, sI_nk (by omega), sI_na hbp, sI_nk (by omega), sI_na hbp, sI_nk (by omega), sI_na hbp, sI_nk (by omega)]
  · rcases (show i = 0 ∨ i = 1 ∨ i = 2 ∨ i = 3 by omega) with rfl | rfl | rfl | rfl
    · rw [sI_na hbp, sI_nk (by omega), sI_na hbp, sI_nk (by omega), sI_na hbp, sI_nk (by omega), sI_na hbp]
      exact sI_eq
    · rw [sI_na hbp, sI_nk (by omega), sI_na hbp, sI_nk (by omega), sI_na hbp]
      exact sI_eq
    · rw [sI_na hbp, sI_nk (by omega), sI_na hbp]
      exact sI_eq
    · rw [sI_na hbp]
      exact sI_eq
theorem c_append {σ : Sh} {X : Mx} {p t : Nat} {x : Int32} (hp : tpOK σ p) (ht : t + 4 ≤ 700) (h1 : X.1 p 1 = nI t) : ∃ X1, f_X7_append σ X p x = some X1 ∧ L4 X X1 p 1 (p + 1) t (fun i => (by8 x i).toInt8.toInt32) := by
  obtain ⟨p0, p1, p2, p3, p4, -⟩ := hp
  obtain ⟨n, hn⟩ : ∃ n, FU = n + 1 + 1 + 1 + 1 + 1 := ⟨39995, FU_40000⟩
  refine ⟨_, ?_, L4.of (by omega)⟩
  obtain ⟨a1, a2, a3, a4, a5⟩ := st8
  have hr : f_X7_hasRoom σ X p (nI 4) = some (nI 1) := by
    unfold f_X7_hasRoom
    simp only [litM]
    rw [grd_t p0, ldI_t p0, h1, nI_add, if_neg (by rw [n_lt (by omega) (by omega)]; omega)]
  unfold f_X7_append
  simp only [litM]
  rw [grd_t p0, hr, Option.bind_some, if_neg (by decide), hn]
  simp (disch := first | assumption | omega) only [f_X7_append_11, litM, grd_t, grd_T, ldI_t, stI_t, ldA_t, stA_t, lenA_t, n_lt_t, n_lt_f, n_le_t, n_le_f, n_eq_t, n_eq_f, if_true, if_false, nI_add, nI_mul, bt_d, bI_z, bI_o, Option.bind_some, Bool.true_eq_false, Bool.false_eq_true, ldR, eq_self, if_true, Option.bind_some, stB_t, p0, p1, h1, sI_na, sI_eq, a1, a2, a3, a4, a5, to8_to8]
  rfl
theorem m_lays {τ : Sh} {Y : Mx} {m t : Nat} {x : Int32} (hm : mdOK τ m) (ht : t + 4 ≤ 700) (h1 : Y.1 m 2 = nI t) : ∃ Y1, f_X10_lays τ Y m x = some Y1 ∧ L4 Y Y1 m 2 (m + 1) t (fun i => by8 x i &&& nI 255) := by
  obtain ⟨n, hn⟩ : ∃ n, FU = n + 1 + 1 + 1 + 1 + 1 := ⟨39995, FU_40000⟩
  refine ⟨_, ?_, L4.of (by omega)⟩
  obtain ⟨a1, a2, a3, a4, a5⟩ := st8
  obtain ⟨m0, m1, m2, m3, m4, m5, m6, m7, m8, m9, m10, m11, m12, m13, m14, m15, m16, m17, mq1, mq2, mq3, mq4, mq5, mq6, mq7, mq8, mq9, mq10, mq11, mq12, mq13, mq14, mq15, mq16, mq17, mn1, mn2, mn3, mn4, mn5, mn6, mn7, mn8, mn9, mn10, mn11, mn12, mn13, mn14, mn15, mn16, mn17⟩ := hm
  unfold f_X10_lays
  simp only [litM]
  rw [grd_t m0, hn]
  simp (disch := first | assumption | omega) only [f_X10_lays_3, litM, grd_t, grd_T, ldI_t, stI_t, ldA_t, stA_t, lenA_t, n_lt_t, n_lt_f, n_le_t, n_le_f, n_eq_t, n_eq_f, if_true, if_false, nI_add, nI_mul, bt_d, bI_z, bI_o, Option.bind_some, Bool.true_eq_false, Bool.false_eq_true, ldR, eq_self, if_true, Option.bind_some, m0, m1, h1, sI_na, sI_eq, a1, a2, a3, a4, a5]
  rfl
