/-! ===== undo and unsettle ===== -/
def ActI (σ : Sh) (a : Nat) (fc : Option (Hr Int32)) (fm : Sh → Mx → Option (Int32 × Mx)) : Prop := ∃ w σ1 X1 c d X3 L R, fc = some (w, σ1, X1, c, d) ∧ c + 17 * pot σ1 a ≤ 17 * pot σ a ∧ d + 947 * pot σ1 a ≤ 947 * pot σ a ∧ fm σ1 X1 = some (w, X3) ∧ IV σ1 X3 a L R
theorem slot_at {σ : Sh} {X : Mx} {a L R z c f i s : Nat} (hs : IVs σ a L R) (hc : c = a + 47 ∨ c = a + 101) (hf : f < 31) (hi : i < 31) (hX : X.1 c 1 = nI f) (hr : shR σ (c + 1) ((f + i) % 31) = some s) : f_X0_slot σ X z c (nI i) = some (s, σ, X, 0, 0) := by
  have hA : acOK σ c := by
    rcases hc with rfl | rfl
    · exact hs.1.2.2.2.1
    · exact hs.1.2.2.2.2.2.2.2.1
  obtain ⟨c0, c1, c2, c3⟩ := hA
  unfold f_X0_slot
  simp only [litM]
  rw [grd_t c0, ldI_t c0, hX, nI_add, fmod31 (f + i) (by omega)]
  simp only [ldR, c0, c1, if_true, Option.bind_some]
  rw [ldQ_s c2 c3 (Nat.mod_lt _ (by omega)) hr]
/-- rows taken back -/
theorem m_undo {τ : Sh} {Y : Mx} {m k : Nat} (hm : mdOK τ m) (hk : k < 30) (h : Y.1 m 19 = nI k) : f_X10_undo_26 τ m FU Y (nI 0) = some (nI k, wF Y (m + 3) (fun j => if 0 ≤ j ∧ j < 0 + 931 then Y.1 (m + 4) (931 * k + (j - 0)) else Y.1 (m + 3) j)) := by
  obtain ⟨n, e⟩ := cp_loop (F := fun n (s : Mx) j => if s.1 m 19 = nI k then f_X10_undo_26 τ m n s (nI j) else none) (Y := Y) (a := m + 3) (a' := m + 4) (off := 0) (src := 931 * k) (N := 931) (Or.inl (by omega)) (by
    intro n s j hj
    show (if s.1 m 19 = nI k then f_X10_undo_26 τ m (n + 1) s (nI j) else none) = (if (sI s (m + 3) (0 + j) (s.1 (m + 4) (931 * k + j))).1 m 19 = nI k then f_X10_undo_26 τ m n _ (nI (j + 1)) else none)
    rw [sI_na (by omega)]
    by_cases e : s.1 m 19 = nI k
    · rw [if_pos e, if_pos e, f_X10_undo_26, Nat.zero_add]
      obtain ⟨m0, m1, m2, m3, m4, m5, m6, m7, m8, m9, m10, m11, m12, m13, m14, m15, m16, m17, mq1, mq2, mq3, mq4, mq5, mq6, mq7, mq8, mq9, mq10, mq11, mq12, mq13, mq14, mq15, mq16, mq17, mn1, mn2, mn3, mn4, mn5, mn6, mn7, mn8, mn9, mn10, mn11, mn12, mn13, mn14, mn15, mn16, mn17⟩ := hm
      simp (disch := first | assumption | omega) only [litM, grd_t, grd_T, ldI_t, stI_t, ldA_t, stA_t, lenA_t, n_lt_t, n_lt_f, n_le_t, n_le_f, n_eq_t, n_eq_f, if_true, if_false, nI_add, nI_mul, bt_d, bI_z, bI_o, Option.bind_some, Bool.true_eq_false, Bool.false_eq_true, ldR, eq_self, if_true, Option.bind_some, m0, m3, m4, e]
    · rw [if_neg e, if_neg e]) (by rw [FU_40000]; omega)
  have e2 : (if Y.1 m 19 = nI k then f_X10_undo_26 τ m FU Y (nI 0) else none) = (if (wF Y (m + 3) (fun j => if 0 ≤ j ∧ j < 0 + 931 then Y.1 (m + 4) (931 * k + (j - 0)) else Y.1 (m + 3) j)).1 m 19 = nI k then f_X10_undo_26 τ m (n + 1) (wF Y (m + 3) (fun j => if 0 ≤ j ∧ j < 0 + 931 then Y.1 (m + 4) (931 * k + (j - 0)) else Y.1 (m + 3) j)) (nI 931) else none) := e
  rw [if_pos h, wF_fn (by omega), if_pos h] at e2
  refine Eq.trans e2 ?_
  rw [f_X10_undo_26]
  refine Eq.trans (if_pos (Int32.le_refl _)) ?_
  rw [ldI_t hm.1, wF_fn (by omega), h]
theorem a_undo {σ : Sh} {X : Mx} {a L R z : Nat} (h : IV σ X a L R) : ActI σ a (f_X9_undo σ X z a) (fun τ Y => f_X10_undo τ Y (a + 108)) := by
  obtain ⟨hs, hc, hm, hq⟩ := id h
  obtain ⟨k, f, hk, hf, e2, e3, e1, e6⟩ := id hc.2.2.1
  have hD := hs.md
  have m0 := hD.1
  have lr := hs.2.1.lr
  have o0 : shK σ a = 7 := h.1.1.1.1
  have o1 : shR σ a 0 = some (a + 1) := h.1.1.1.2.1
  have o4 : shR σ a 3 = some (a + 47) := h.1.1.1.2.2.2.2.1
  have c0 : shK σ (a + 47) = 0 := hs.1.2.2.2.1.1
  by_cases hk0 : k = 0
  · subst hk0
    refine ⟨-(nI 1), σ, X, 0, 0, sI X (a + 108) 0 (nI 0), L, R, ?_, by omega, by omega, ?_, h.frQ (FrQ.fld (by omega))⟩
    · unfold f_X9_undo f_X0_takeBack
      simp only [litM]
      rw [grd_t o0]
      simp only [ldR, o0, o1, o4, if_true, Option.bind_some]
      rw [grd_t c0, ldI_t c0, e2, if_pos rfl, bndH_s, if_pos rfl, adc_some]
    · unfold f_X10_undo
      simp only [litM]
      rw [grd_t m0, stI_t m0, ldI_t m0, sI_nk (by omega), e3, if_pos rfl]
  · obtain ⟨j, rfl⟩ : ∃ j, k = j + 1 := ⟨k - 1, by omega⟩
    obtain ⟨s, hr, hS⟩ := e6 j (by omega)
    obtain ⟨so, sa⟩ := hs.2.2.1.1 (a + 48) _ s (Or.inl rfl) (Nat.mod_lt _ (by omega)) hr
    have ne1 : ¬ nI (j + 1) = nI 0 := fun e => by have := nI_inj (by omega) (by omega) e; omega
    have sb : nI (j + 1) - nI 1 = nI j := by rw [Nat.add_comm j 1, nI_sub]
    obtain ⟨Xa, hXa⟩ : ∃ Xa, Xa = sI X (a + 47) 2 (nI j) := ⟨_, rfl⟩
    have xa : ∀ q, q ≠ a + 47 → Xa.1 q = X.1 q := fun q hq => by rw [hXa, sI_ne hq]
    have xa2 : Xa.1 (a + 47) 2 = nI j := by rw [hXa, sI_eq]
    have xa1 : Xa.1 (a + 47) 1 = nI f := by rw [hXa, sI_nk (by omega), e1]
    have es := slot_at (X := Xa) (z := z) (i := j) hs (Or.inl rfl) hf (by omega) xa1 hr
    obtain ⟨Z, ez, zf, zc⟩ := st_copy (X := Xa) hs.2.1 so (Or.inl (by omega))
    obtain ⟨X3, e3', w1, w2, w3, w4⟩ := noteChange (X := Z) hs
    have x3 : ∀ q, q ≠ a → q ≠ a + 81 → q ≠ a + 47 → (q < a + 1 ∨ a + 17 < q) → X3.1 q = X.1 q := fun q q1 q2 q3 q4 => by rw [w1 q q1 q2, zf.2 q (by omega), xa q q3]
    have x47 : X3.1 (a + 47) = Xa.1 (a + 47) := by rw [w1 _ (by omega) (by omega), zf.2 _ (by omega)]
    have xs : ∀ q, a + 1 ≤ q → q ≤ a + 17 → X3.1 q = Z.1 q := fun q q1 q2 => w1 q (by omega) (by omega)
    have xA : ∀ j, j ≠ 10 → X3.1 a j = X.1 a j := fun j hj => by rw [w2 j hj, zf.2 a (by omega), xa a (by omega)]
    obtain ⟨Y2, hY2⟩ : ∃ Y2, Y2 = sI (sI X3 (a + 108) 0 (nI 0)) (a + 108) 19 (nI j) := ⟨_, rfl⟩
    have mu := m_undo (Y := Y2) hD (show j < 30 by omega) (by rw [hY2, sI_eq])
    obtain ⟨Y3, hY3⟩ : ∃ Y3, Y3 = wF Y2 (a + 108 + 3) (fun i => if 0 ≤ i ∧ i < 0 + 931 then Y2.1 (a + 108 + 4) (931 * j + (i - 0)) else Y2.1 (a + 108 + 3) i) := ⟨_, rfl⟩
    rw [← hY3] at mu
    have y2 : ∀ q, q ≠ a + 108 → Y2.1 q = X3.1 q := fun q hq => by rw [hY2, sI_ne hq, sI_ne hq]
    have y3 : ∀ q, q ≠ a + 108 → q ≠ a + 111 → Y3.1 q = X3.1 q := fun q q1 q2 => by rw [hY3, wF_fn (by omega), y2 q q1]
    have ym : ∀ i, i ≠ 0 → i ≠ 19 → Y3.1 (a + 108) i = X.1 (a + 108) i := fun i h0 h1 => by rw [hY3, wF_fn (by omega), hY2, sI_nk h1, sI_nk h0, x3 _ (by omega) (by omega) (by omega) (by omega)]
    have y19 : Y3.1 (a + 108) 19 = nI j := by rw [hY3, wF_fn (by omega), hY2, sI_eq]
    refine ⟨nI j, σ, X3, 0, 0, Y3, L, R, ?_, by omega, by omega, ?_, ?_⟩
    · unfold f_X9_undo f_X0_takeBack
      simp only [litM]
      rw [grd_t o0]
      simp only [ldR, o0, o1, o4, if_true, Option.bind_some]
      rw [grd_t c0, ldI_t c0, e2, if_neg ne1, ldI_t c0, stI_t c0, e2, sb, ← hXa, ldI_t c0, xa2, es, bndH_s, ez, Option.bind_some, adc_some, bndH_s, if_neg (by decide), e3', Option.bind_some, if_pos o0, o4, Option.bind_some, ldI_t c0, x47, xa2, adc_some]
    · unfold f_X10_undo
      simp only [litM]
      rw [grd_t m0, stI_t m0, ldI_t m0, sI_nk (by omega), x3 _ (by omega) (by omega) (by omega) (by omega), e3, if_neg ne1, ldI_t m0, stI_t m0, sI_nk (by omega), x3 _ (by omega) (by omega) (by omega) (by omega), e3, sb, ← hY2]
      exact mu
    · refine h.kept hs (fun q hq => by rw [y3 q (by omega) (by omega), x3 q (by omega) (by omega) (by omega) (by omega)]) ?_ ?_ (fun i hi => ym i (by omega) (by omega)) ?_ ?_ ?_ (fun q hq => ?_)
      · rw [y3 a (by omega) (by omega), xA 9 (by omega)]
      · rw [y3 a (by omega) (by omega), xA 11 (by omega)]
      · have hS1 : StR Xa.1 s (s + 5) (s + 9) (X.1 (a + 112)) (931 * j) := hS.fr (Or.inl ⟨rfl, rfl⟩) (fun q q1 q2 => xa q (by omega)) (fun _ _ => rfl)
        refine (hS1.cp (b1 := 0) (W1 := Y3.1 (a + 111)) zc (fun i hi => ?_)).fr lr (fun q q1 q2 => ?_) (fun _ _ => rfl)
        · rw [hY3]
          show (wF Y2 (a + 111) _).1 (a + 111) (0 + i) = _
          rw [wF_at, if_pos (by omega), Nat.zero_add, Nat.sub_zero, y2 _ (by omega), x3 _ (by omega) (by omega) (by omega) (by omega)]
        · rw [y3 q (by omega) (by omega), xs q (by omega) (by omega)]
      · refine ⟨j, f, by omega, hf, ?_, y19, ?_, fun i hi => ?_⟩
        · rw [y3 _ (by omega) (by omega), x47, xa2]
        · rw [y3 _ (by omega) (by omega), x47, xa1]
        · obtain ⟨s1, r1, r2⟩ := e6 i (by omega)
          have sa1 := (hs.2.2.1.1 (a + 48) _ s1 (Or.inl rfl) (Nat.mod_lt _ (by omega)) r1).2
          refine ⟨s1, r1, r2.fr (Or.inl ⟨rfl, rfl⟩) (fun q q1 q2 => ?_) (fun i hi => ?_)⟩
          · rw [y3 q (by omega) (by omega), x3 q (by omega) (by omega) (by omega) (by omega)]
          · rw [y3 _ (by omega) (by omega), x3 _ (by omega) (by omega) (by omega) (by omega)]
      · rw [y3 a (by omega) (by omega)]; exact w3
      · rw [y3 _ (by omega) (by omega)]; exact w4 q hq
/-- the choice at a place, on both sides -/
theorem IV.ch {σ : Sh} {X : Mx} {a L R id : Nat} (h : IV σ X a L R) (hid : id < 316) : X.1 (a + 17) id = X.1 (a + 111) (615 + id) ∧ chOI id (X.1 (a + 17) id) := by
  have := h.2.1.1.2.2.2.2.2.2.2.2.2 id hid
  rw [Nat.zero_add] at this
  exact this
