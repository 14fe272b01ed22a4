/-! ===== the seven edits, as the law calls them ===== -/
def Act (σ : Sh) (a : Nat) (fc : Option (Hr (Int32 ⊕ Nat))) (fm : Sh → Mx → Option (Int32 × Mx)) : Prop := ∃ w σ1 X1 c d, fc = some (w, σ1, X1, c, d) ∧ c + 17 * pot σ1 a ≤ 17 * pot σ a + 1 ∧ d + 947 * pot σ1 a ≤ 947 * pot σ a + 6 ∧ objOK σ1 a ∧ ∀ X2 : Mx, X2.1 = X1.1 → ∃ b X3 L R, fm σ1 X2 = some (b, X3) ∧ IV σ1 X3 a L R ∧ Out w b (X3.1 (a + 108) 0) ∧ X3.2 = X2.2
theorem Mem0.of {X1 X2 : Mx} {a : Nat} (h : X2.1 = X1.1) : Mem0 X1 (sI X2 (a + 108) 0 (nI 0)) a := ⟨fun q hq => by rw [sI_ne hq, h], fun j hj => by rw [sI_nk hj, h], sI_eq⟩
theorem in_1 {x : Int32} (h : inR 1 x = false) : ¬ x = nI 0 ∧ ¬ x = nI 1 := by
  refine ⟨fun e => ?_, fun e => ?_⟩
  · rw [e, inR_t (by omega) (by omega)] at h; cases h
  · rw [e, inR_t (by omega) (by omega)] at h; cases h
theorem edit_no {σ : Sh} {X : Mx} {a L R z e : Nat} {t x y w : Int32} (h : IV σ X a L R) (ht : inR 1 t = false) : f_X9_editByHand σ X z a (nI e) t x y w = some (.inr 0, σ, X, 1, 6) := by
  unfold f_X9_editByHand f_X9_demandSide
  simp only [litM]
  rw [grd_t h.1.1.1.1, if_neg (in_1 ht).1, if_neg (in_1 ht).2]
  rfl
theorem edited0_no {τ : Sh} {Y : Mx} {m : Nat} {t u x y w : Int32} (hm : mdOK τ m) (h0 : Y.1 m 0 = nI 0) (ht : inR 1 t = false) : f_X10_edited0 τ Y m t u x y w = some (nI 0, sI Y m 0 (nI 1)) := by
  unfold f_X10_edited0
  simp only [litM]
  rw [grd_t hm.1, s_win (by omega), ht, s10_right hm h0 (Or.inl rfl), bnd2_k, if_pos bI_f, if_neg (by simp)]
theorem IV.thr {σ : Sh} {X X2 : Mx} {a L R : Nat} (h : IV σ X a L R) (e : X2.1 = X.1) : IV σ (sI (sI X2 (a + 108) 0 (nI 0)) (a + 108) 0 (nI 1)) a L R := (h.out e).frQ ((FrQ.fld (by omega)).trans (FrQ.fld (by omega)))
theorem bndX_i {α ρ : Type} {x : α} {σ : Sh} {X : Mx} {c d : Nat} {k : α → Sh → Mx → Nat → Nat → Option (Hr (ρ ⊕ Nat))} : bndX (some (Sum.inl x, σ, X, c, d)) k = adc c d (k x σ X c d) := rfl
theorem edit_act {σ : Sh} {X : Mx} {a L R z e : Nat} {t x y w : Int32} (h : IV σ X a L R) (hz : ∀ q ∈ shL σ, q < z) (he : e < 7) :
    Act σ a (bndX (f_X9_editByHand σ X z a (nI e) t x y w) fun v1 σ1 X1 _ _ => (if v1 = -(nI 1) then some (.inl (nI 0), σ1, X1, 0, 0) else some (.inl (nI 1), σ1, X1, 0, 0)))
      (fun τ Y => stI τ Y 8 (a + 108) 0 (nI 0) fun X1 => bnd2 (f_X10_edited0 τ X1 (a + 108) t (nI (howOf e)) x y w) fun v4 X3 => grd (v4 = nI 0 ∨ v4 = nI 1) (some (v4, X3))) := by
  cases ht : inR 1 t with
  | false =>
    refine ⟨.inr 0, σ, X, 1, 6, ?_, by omega, by omega, h.1.1, fun X2 hX2 => ?_⟩
    · rw [edit_no h ht, bndX_r]
    · refine ⟨nI 0, _, L, R, ?_, h.thr hX2, Or.inr ⟨0, rfl, by omega, sI_eq⟩, rfl⟩
      refine Eq.trans (stI_t h.1.md.1) ?_
      rw [edited0_no h.1.md sI_eq ht, bnd2_k, grd_t (Or.inl rfl)]
  | true =>
    obtain ⟨t, ht', rfl⟩ := inR_ex (by omega) ht
    obtain ⟨ok, v, σ1, X1, c, d, e1, b1, b2, v0, v1, -, hs1, hm⟩ := edit_both (x := x) (y := y) (w := w) h hz (show t < 2 by omega) he
    refine ⟨.inl (bI ok), σ1, X1, c, d, ?_, by omega, by omega, hs1.1, fun X2 hX2 => ?_⟩
    · rw [e1]
      cases ok with
      | false =>
        rw [v0 rfl, bndX_i, if_pos rfl, adc_some, Nat.zero_add, Nat.zero_add, bI_f]
      | true =>
        rw [bndX_i, if_neg (v1 rfl).1, adc_some, Nat.zero_add, Nat.zero_add, bI_t]
    · obtain ⟨Y1, k1, k2, k3, k4⟩ := hm _ (Mem0.of hX2)
      refine ⟨bI ok, Y1, L, R, ?_, k2, Or.inl ⟨_, rfl, k3, rfl⟩, k4⟩
      refine Eq.trans (stI_t hs1.md.1) ?_
      rw [k1, bnd2_k, grd_t (by rw [bI_01]; trivial)]
theorem a_set {σ : Sh} {X : Mx} {a L R z : Nat} {x1 x2 x3 x4 : Int32} (h : IV σ X a L R) (hz : ∀ q ∈ shL σ, q < z) : Act σ a (f_X9_set σ X z a x1 x2 x3 x4) (fun τ Y => f_X10_set τ Y (a + 108) x1 x2 x3 x4) := by
  have := edit_act (e := 0) (t := x1) (x := x2) (y := x3) (w := x4) h hz (by omega)
  obtain ⟨w, σ1, X1, c, d, e1, b1, b2, o1, hm⟩ := this
  refine ⟨w, σ1, X1, c, d, ?_, b1, b2, o1, fun X2 hX2 => ?_⟩
  · unfold f_X9_set
    simp only [litM]
    rw [grd_t h.1.1.1.1]
    exact e1
  · obtain ⟨b, X3, L', R', k1, k2, k3, k4⟩ := hm X2 hX2
    refine ⟨b, X3, L', R', ?_, k2, k3, k4⟩
    unfold f_X10_set
    simp only [litM]
    rw [grd_t k2.1.md.1]
    exact k1
theorem a_insert {σ : Sh} {X : Mx} {a L R z : Nat} {x1 x2 : Int32} (h : IV σ X a L R) (hz : ∀ q ∈ shL σ, q < z) : Act σ a (f_X9_insert σ X z a x1 x2) (fun τ Y => f_X10_insert τ Y (a + 108) x1 x2) := by
  have := edit_act (e := 1) (t := x1) (x := x2) (y := nI 0) (w := nI 0) h hz (by omega)
  obtain ⟨w, σ1, X1, c, d, e1, b1, b2, o1, hm⟩ := this
  refine ⟨w, σ1, X1, c, d, ?_, b1, b2, o1, fun X2 hX2 => ?_⟩
  · unfold f_X9_insert
    simp only [litM]
    rw [grd_t h.1.1.1.1]
    exact e1
  · obtain ⟨b, X3, L', R', k1, k2, k3, k4⟩ := hm X2 hX2
    refine ⟨b, X3, L', R', ?_, k2, k3, k4⟩
    unfold f_X10_insert
    simp only [litM]
    rw [grd_t k2.1.md.1]
    exact k1
theorem a_delete {σ : Sh} {X : Mx} {a L R z : Nat} {x1 x2 : Int32} (h : IV σ X a L R) (hz : ∀ q ∈ shL σ, q < z) : Act σ a (f_X9_delete σ X z a x1 x2) (fun τ Y => f_X10_delete τ Y (a + 108) x1 x2) := by
  have := edit_act (e := 2) (t := x1) (x := x2) (y := nI 0) (w := nI 0) h hz (by omega)
  obtain ⟨w, σ1, X1, c, d, e1, b1, b2, o1, hm⟩ := this
  refine ⟨w, σ1, X1, c, d, ?_, b1, b2, o1, fun X2 hX2 => ?_⟩
  · unfold f_X9_delete
    simp only [litM]
    rw [grd_t h.1.1.1.1]
    exact e1
  · obtain ⟨b, X3, L', R', k1, k2, k3, k4⟩ := hm X2 hX2
    refine ⟨b, X3, L', R', ?_, k2, k3, k4⟩
    unfold f_X10_delete
    simp only [litM]
    rw [grd_t k2.1.md.1]
    exact k1
theorem a_retype {σ : Sh} {X : Mx} {a L R z : Nat} {x1 x2 x3 : Int32} (h : IV σ X a L R) (hz : ∀ q ∈ shL σ, q < z) : Act σ a (f_X9_retype σ X z a x1 x2 x3) (fun τ Y => f_X10_retype τ Y (a + 108) x1 x2 x3) := by
  have := edit_act (e := 3) (t := x1) (x := x2) (y := x3) (w := nI 0) h hz (by omega)
  obtain ⟨w, σ1, X1, c, d, e1, b1, b2, o1, hm⟩ := this
  refine ⟨w, σ1, X1, c, d, ?_, b1, b2, o1, fun X2 hX2 => ?_⟩
  · unfold f_X9_retype
    simp only [litM]
    rw [grd_t h.1.1.1.1]
    exact e1
  · obtain ⟨b, X3, L', R', k1, k2, k3, k4⟩ := hm X2 hX2
    refine ⟨b, X3, L', R', ?_, k2, k3, k4⟩
    unfold f_X10_retype
    simp only [litM]
    rw [grd_t k2.1.md.1]
    exact k1
theorem a_rename {σ : Sh} {X : Mx} {a L R z : Nat} {x1 x2 x3 : Int32} (h : IV σ X a L R) (hz : ∀ q ∈ shL σ, q < z) : Act σ a (f_X9_rename σ X z a x1 x2 x3) (fun τ Y => f_X10_rename τ Y (a + 108) x1 x2 x3) := by
  have := edit_act (e := 4) (t := x1) (x := x2) (y := x3) (w := nI 0) h hz (by omega)
  obtain ⟨w, σ1, X1, c, d, e1, b1, b2, o1, hm⟩ := this
  refine ⟨w, σ1, X1, c, d, ?_, b1, b2, o1, fun X2 hX2 => ?_⟩
  · unfold f_X9_rename
    simp only [litM]
    rw [grd_t h.1.1.1.1]
    exact e1
  · obtain ⟨b, X3, L', R', k1, k2, k3, k4⟩ := hm X2 hX2
    refine ⟨b, X3, L', R', ?_, k2, k3, k4⟩
    unfold f_X10_rename
    simp only [litM]
    rw [grd_t k2.1.md.1]
    exact k1
theorem a_drop {σ : Sh} {X : Mx} {a L R z : Nat} {x1 x2 : Int32} (h : IV σ X a L R) (hz : ∀ q ∈ shL σ, q < z) : Act σ a (f_X9_drop σ X z a x1 x2) (fun τ Y => f_X10_drop τ Y (a + 108) x1 x2) := by
  have := edit_act (e := 6) (t := x1) (x := x2) (y := nI 0) (w := nI 0) h hz (by omega)
  obtain ⟨w, σ1, X1, c, d, e1, b1, b2, o1, hm⟩ := this
  refine ⟨w, σ1, X1, c, d, ?_, b1, b2, o1, fun X2 hX2 => ?_⟩
  · unfold f_X9_drop
    simp only [litM]
    rw [grd_t h.1.1.1.1]
    exact e1
  · obtain ⟨b, X3, L', R', k1, k2, k3, k4⟩ := hm X2 hX2
    refine ⟨b, X3, L', R', ?_, k2, k3, k4⟩
    unfold f_X10_drop
    simp only [litM]
    rw [grd_t k2.1.md.1]
    exact k1
theorem a_add {σ : Sh} {X : Mx} {a L R z : Nat} {x1 x2 x3 : Int32} (h : IV σ X a L R) (hz : ∀ q ∈ shL σ, q < z) : Act σ a (f_X9_add σ X z a x1 x2 x3) (fun τ Y => f_X10_add τ Y (a + 108) x1 x2 x3) := by
  have o0 := h.1.1.1.1
  cases ht : inR 1 x1 with
  | false =>
    refine ⟨.inr 0, σ, X, 1, 6, ?_, by omega, by omega, h.1.1, fun X2 hX2 => ?_⟩
    · unfold f_X9_add
      simp only [litM]
      rw [grd_t o0, edit_no h ht, bndX_r]
    · refine ⟨nI 0, _, L, R, ?_, h.thr hX2, Or.inr ⟨0, rfl, by omega, sI_eq⟩, rfl⟩
      have m0 := h.1.md.1
      unfold f_X10_add f_X10_add_24
      simp only [litM]
      rw [grd_t m0, stI_t m0, s_win (by omega), ht, if_pos bI_f, edited0_no h.1.md sI_eq ht, bnd2_k, ldI_t m0, sI_eq, if_neg (by decide)]
  | true =>
    obtain ⟨t, ht', rfl⟩ := inR_ex (by omega) ht
    obtain ⟨ok, v, σ1, X1, c, d, e1, b1, b2, v0, v1, hX1, hs1, hm⟩ := edit_both (e := 5) (x := x2) (y := x3) (w := nI 0) h hz (show t < 2 by omega) (by omega)
    refine ⟨.inl v, σ1, X1, c, d, ?_, by omega, by omega, hs1.1, fun X2 hX2 => ?_⟩
    · unfold f_X9_add
      simp only [litM]
      rw [grd_t o0, e1, bndX_i, adc_some, Nat.zero_add, Nat.zero_add]
    · obtain ⟨Y1, k1, k2, k3, k4⟩ := hm _ (Mem0.of hX2)
      refine ⟨v, Y1, L, R, ?_, k2, Or.inl ⟨_, rfl, k3, rfl⟩, k4⟩
      obtain ⟨dd, d2, hd⟩ : ∃ dd, dd ≤ 2 ∧ X.1 (a + 111) (613 + t) = nI dd := by
        obtain ⟨-, -, -, -, -, -, -, ⟨d1, p1, p2, p3, p4⟩, ⟨d2, r1, r2, r3, r4⟩, -⟩ := h.2.1.1
        rcases (show t = 0 ∨ t = 1 by omega) with rfl | rfl
        · exact ⟨d1, p1, p3⟩
        · exact ⟨d2, r1, r3⟩
      have hd2 : X2.1 (a + 111) (613 + t) = nI dd := by rw [hX2, hX1 _ (by omega) (by omega)]; exact hd
      have m0 := hs1.md.1
      have en : f_X10_nextColumn σ1 (sI X2 (a + 108) 0 (nI 0)) (a + 108) (nI 0) (nI t) = some (if dd = 2 then -(nI 1) else nI (5 + 2 * t + dd)) := by
        obtain ⟨m0, m1, m2, m3, m4, m5, m6, m7, m8, m9, m10, m11, m12, m13, m14, m15, m16, m17, mq1, mq2, mq3, mq4, mq5, mq6, mq7, mq8, mq9, mq10, mq11, mq12, mq13, mq14, mq15, mq16, mq17, mn1, mn2, mn3, mn4, mn5, mn6, mn7, mn8, mn9, mn10, mn11, mn12, mn13, mn14, mn15, mn16, mn17⟩ := hs1.md
        have hd3 : (sI X2 (a + 108) 0 (nI 0)).1 (a + 108 + 3) (0 + 613 + t) = nI dd := by rw [sI_na (by omega), Nat.zero_add]; exact hd2
        by_cases e : dd = 2
        · simp (disch := first | assumption | omega) only [f_X10_nextColumn, litM, grd_t, grd_T, ldI_t, stI_t, ldA_t, stA_t, lenA_t, n_lt_t, n_lt_f, n_le_t, n_le_f, n_eq_t, n_eq_f, if_true, if_false, nI_add, nI_mul, bt_d, bI_z, bI_o, Option.bind_some, Bool.true_eq_false, Bool.false_eq_true, ldR, eq_self, if_true, Option.bind_some, m0, m3, hd3, e]
        · simp (disch := first | assumption | omega) only [f_X10_nextColumn, litM, grd_t, grd_T, ldI_t, stI_t, ldA_t, stA_t, lenA_t, n_lt_t, n_lt_f, n_le_t, n_le_f, n_eq_t, n_eq_f, if_true, if_false, nI_add, nI_mul, bt_d, bI_z, bI_o, Option.bind_some, Bool.true_eq_false, Bool.false_eq_true, ldR, eq_self, if_true, Option.bind_some, m0, m3, hd3, e]
      have eg : (bI (inR 1 (nI t)) = nI 0) = False := by rw [ht]; exact eq_false (by decide)
      have hans : (if bI ok = nI 0 then some (-(nI 1), Y1) else some ((if dd = 2 then -(nI 1) else nI (5 + 2 * t + dd)), Y1)) = some (v, Y1) := by
        cases ok with
        | false => rw [if_pos bI_f, v0 rfl]
        | true =>
          obtain ⟨d', g1, g2, g3⟩ := (v1 rfl).2 rfl
          have : dd = d' := nI_inj (by omega) (by omega) (hd.symm.trans g2)
          subst this
          rw [if_neg (by decide), if_neg (by omega), g3]
      unfold f_X10_add f_X10_add_24
      simp only [litM]
      rw [grd_t m0, stI_t m0, s_win (by omega), if_neg (by rw [eg]; exact id), en, Option.bind_some, show f_X10_edited0 σ1 (sI X2 (a + 108) 0 (nI 0)) (a + 108) (nI t) (nI 16) x2 x3 (nI 0) = _ from k1, bnd2_k, ldI_t m0, k3, if_pos rfl]
      exact hans
