def Tp (X Y : Mx) (p m t : Nat) : Prop := X.1 p 1 = nI t ∧ Y.1 m 2 = nI t ∧ ∀ j, j < t → Y.1 (m + 1) j = X.1 (p + 1) j &&& nI 255 ∧ X.1 (p + 1) j = (X.1 (p + 1) j).toInt8.toInt32
theorem Tp.step {X X1 Y Y1 : Mx} {p m t : Nat} {x : Int32} (h : Tp X Y p m t) (l : L4 X X1 p 1 (p + 1) t (fun i => (by8 x i).toInt8.toInt32)) (k : L4 Y Y1 m 2 (m + 1) t (fun i => by8 x i &&& nI 255)) : Tp X1 Y1 p m (t + 4) := by
  obtain ⟨-, -, -, l1, l2, l3⟩ := l
  obtain ⟨-, -, -, k1, k2, k3⟩ := k
  refine ⟨l1, k1, fun j hj => ?_⟩
  by_cases e : j < t
  · rw [l2 j e, k2 j e]
    exact h.2.2 j e
  · obtain ⟨i, rfl⟩ : ∃ i, j = t + i := ⟨j - t, by omega⟩
    rw [l3 i (by omega), k3 i (by omega)]
    exact ⟨(and255 _).symm, (to8_to8 _).symm⟩
theorem a_feed {σ : Sh} {X : Mx} {a L R : Nat} {x1 x2 x3 x4 x5 : Int32} (h : IV σ X a L R) : Pl σ a (f_X9_feed σ X a x1 x2 x3 x4 x5) (fun Y => f_X10_feed σ Y (a + 108) x1 x2 x3 x4 x5) := by
  have hs := h.1
  have hD := hs.md
  have m0 := hD.1
  have o0 : shK σ a = 7 := hs.1.1.1
  have o3 : shR σ a 2 = some (a + 28) := hs.1.1.2.2.2.1
  have hT : tpOK σ (a + 28) := hs.1.2.2.1
  have t0 := hT.1
  obtain ⟨t, ht, e1, e2, e3⟩ := h.2.1.2.1
  by_cases hr : t + 20 ≤ 700
  · have er : f_X7_hasRoom σ X (a + 28) (nI 20) = some (nI 1) := by
      unfold f_X7_hasRoom
      simp only [litM]
      rw [grd_t t0, ldI_t t0, e1, nI_add, if_neg (by rw [n_lt (by omega) (by omega)]; omega)]
    obtain ⟨X1, c1, l1⟩ := c_append (X := X) (x := x1) hT (t := t) (by omega) e1
    obtain ⟨X2, c2, l2⟩ := c_append (X := X1) (x := x2) hT (t := t + 4) (by omega) l1.2.2.2.1
    obtain ⟨X3, c3, l3⟩ := c_append (X := X2) (x := x3) hT (t := t + 4 + 4) (by omega) l2.2.2.2.1
    obtain ⟨X4, c4, l4⟩ := c_append (X := X3) (x := x4) hT (t := t + 4 + 4 + 4) (by omega) l3.2.2.2.1
    obtain ⟨X5, c5, l5⟩ := c_append (X := X4) (x := x5) hT (t := t + 4 + 4 + 4 + 4) (by omega) l4.2.2.2.1
    have x5' : ∀ q, q ≠ a + 28 → q ≠ a + 29 → X5.1 q = X.1 q := fun q q1 q2 => by rw [l5.2.1 q q1 q2, l4.2.1 q q1 q2, l3.2.1 q q1 q2, l2.2.1 q q1 q2, l1.2.1 q q1 q2]
    have y0 : (sI X5 (a + 108) 0 (nI 0)).1 (a + 108) 2 = nI t := by rw [sI_nk (by omega), x5' _ (by omega) (by omega)]; exact e2
    obtain ⟨Y1, d1, k1⟩ := m_lays (Y := sI X5 (a + 108) 0 (nI 0)) (x := x1) hD (t := t) (by omega) y0
    obtain ⟨Y2, d2, k2⟩ := m_lays (Y := Y1) (x := x2) hD (t := t + 4) (by omega) k1.2.2.2.1
    obtain ⟨Y3, d3, k3⟩ := m_lays (Y := Y2) (x := x3) hD (t := t + 4 + 4) (by omega) k2.2.2.2.1
    obtain ⟨Y4, d4, k4⟩ := m_lays (Y := Y3) (x := x4) hD (t := t + 4 + 4 + 4) (by omega) k3.2.2.2.1
    obtain ⟨Y5, d5, k5⟩ := m_lays (Y := Y4) (x := x5) hD (t := t + 4 + 4 + 4 + 4) (by omega) k4.2.2.2.1
    have y5 : ∀ q, q ≠ a + 108 → q ≠ a + 109 → Y5.1 q = X5.1 q := fun q q1 q2 => by rw [k5.2.1 q q1 q2, k4.2.1 q q1 q2, k3.2.1 q q1 q2, k2.2.1 q q1 q2, k1.2.1 q q1 q2, sI_ne q1]
    have ym : ∀ j, j ≠ 0 → j ≠ 2 → Y5.1 (a + 108) j = X.1 (a + 108) j := fun j j0 j1 => by rw [k5.2.2.1 j j1, k4.2.2.1 j j1, k3.2.2.1 j j1, k2.2.2.1 j j1, k1.2.2.1 j j1, sI_nk j0, x5' _ (by omega) (by omega)]
    have T0 : Tp X (sI X5 (a + 108) 0 (nI 0)) (a + 28) (a + 108) t := ⟨e1, y0, fun j hj => by
      rw [sI_na (by omega), x5' _ (by omega) (by omega)]
      exact e3 j hj⟩
    have T5 := ((((T0.step l1 k1).step l2 k2).step l3 k3).step l4 k4).step l5 k5
    refine ⟨nI (t + 4 + 4 + 4 + 4 + 4), X5, Y5, L, R, ?_, ?_, ?_⟩
    · unfold f_X9_feed
      simp only [litM]
      rw [grd_t o0]
      simp only [ldR, o0, o3, if_true, Option.bind_some]
      rw [er, Option.bind_some, if_neg (by decide), c1, Option.bind_some, c2, Option.bind_some, c3, Option.bind_some, c4, Option.bind_some, c5, Option.bind_some, ldI_t t0, l5.2.2.2.1]
    · unfold f_X10_feed
      simp only [litM]
      rw [grd_t m0, stI_t m0, ldI_t m0, y0, nI_add, if_pos (by rw [n_le (by omega) (by omega)]; omega), d1, Option.bind_some, d2, Option.bind_some, d3, Option.bind_some, d4, Option.bind_some, d5, Option.bind_some, ldI_t m0, k5.2.2.2.1]
    · refine h.tape (fun q q1 q2 q3 q4 => by rw [y5 q q4 q3, x5' q q1 q2]) ym ⟨t + 4 + 4 + 4 + 4 + 4, by omega, ?_, T5.2.1, fun j hj => ?_⟩
      · rw [y5 _ (by omega) (by omega)]; exact T5.1
      · rw [y5 (a + 28 + 1) (by omega) (by omega)]; exact T5.2.2 j hj
  · refine ⟨-(nI 1), X, sI X (a + 108) 0 (nI 0), L, R, ?_, ?_, h.frQ (FrQ.fld (by omega))⟩
    · have er : f_X7_hasRoom σ X (a + 28) (nI 20) = some (nI 0) := by
        unfold f_X7_hasRoom
        simp only [litM]
        rw [grd_t t0, ldI_t t0, e1, nI_add, if_pos (by rw [n_lt (by omega) (by omega)]; omega)]
      unfold f_X9_feed
      simp only [litM]
      rw [grd_t o0]
      simp only [ldR, o0, o3, if_true, Option.bind_some]
      rw [er, Option.bind_some, if_pos rfl]
    · unfold f_X10_feed
      simp only [litM]
      rw [grd_t m0, stI_t m0, ldI_t m0, sI_nk (by omega), e2, nI_add, if_neg (by rw [n_le (by omega) (by omega)]; omega)]
