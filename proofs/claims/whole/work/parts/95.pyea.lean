/-! ===== years ===== -/
theorem xor_n {a b : Nat} : nI a ^^^ nI b = nI (a ^^^ b) := by
  apply Int32.toBitVec_inj.mp
  rw [Int32.toBitVec_xor, nI_bv, nI_bv, nI_bv]
  exact BitVec.ofNat_xor.symm
theorem div_n {a b : Nat} (ha : a < 2 ^ 31) (hb : b < 2 ^ 31) : nI a / nI b = nI (a / b) := by
  apply Int32.toInt_inj.mp
  have h : a / b ≤ a := Nat.div_le_self _ _
  rw [Int32.toInt_div, nI_toInt ha, nI_toInt hb, nI_toInt (by omega), ← Int.ofNat_tdiv]
  generalize a / b = r at h ⊢
  exact Int.bmod_eq_of_le (by omega) (by omega)
theorem mod_n {a b : Nat} (ha : a < 2 ^ 31) (hb : b < 2 ^ 31) : nI a - nI a / nI b * nI b = nI (a % b) := by
  rw [div_n ha hb, nI_mul, sub_n (Nat.div_mul_le_self a b), Nat.mul_comm, ← Nat.mod_eq_sub_mul_div]
theorem u15 (v : Int32) : ∃ k, k < 32768 ∧ v &&& nI 32767 = nI k := by
  obtain ⟨k, h1, h2⟩ := low_n (n := 15) (w := v &&& nI 32767) (by omega) (fun d hd => by
    rw [bt_and, bt_n (by omega), Nat.testBit_lt_two_pow (Nat.lt_of_lt_of_le (show 32767 < 2 ^ 15 by omega) (Nat.pow_le_pow_right (by omega) hd)), Bool.and_false])
  exact ⟨k, by omega, h2⟩
def sdN (s : Int32) : Int32 := s * nI 1103515245 + nI 12345
theorem draw_both {σ τ : Sh} {X Y : Mx} {q m n : Nat} (hq : shK σ q = 2) (hm : shK τ m = 8) (hn : 2 ≤ n) (hn2 : n < 100) (h : X.1 q 6 = Y.1 m 34) : ∃ k, k < n ∧ f_X3_draw σ X q (nI n) = some (nI k, sI X q 6 (sdN (Y.1 m 34))) ∧ f_X10_draw τ Y m (nI n) = some (nI k, sI Y m 34 (sdN (Y.1 m 34))) := by
  obtain ⟨u, hu, eu⟩ := u15 (sdN (Y.1 m 34) >>> (nI 16 &&& nI 31))
  have hx : u ^^^ n < 2 ^ 15 := Nat.xor_lt_two_pow (by omega) (by omega)
  refine ⟨u % n, Nat.mod_lt _ (by omega), ?_, ?_⟩
  · unfold f_X3_draw
    simp only [litM]
    rw [grd_t hq, ldI_t hq, stI_t hq, ldI_t hq, sI_eq, h]
    show (f_J9_floorMod_7cf53 ((sdN (Y.1 m 34) >>> (nI 16 &&& nI 31)) &&& nI 32767) (f_J9_max_7cf53 (nI 1) (nI n))).bind _ = _
    rw [eu, show f_J9_max_7cf53 (nI 1) (nI n) = nI n from if_pos (by rw [n_lt (by omega) (by omega)]; omega)]
    unfold f_J9_floorMod_7cf53
    simp only [litM]
    rw [grd_t (by rw [n_eq (by omega) (by omega)]; omega), xor_n, if_pos (by rw [n_le (by omega) (by omega)]; omega), mod_n (by omega) (by omega), Option.bind_some]
    rfl
  · unfold f_X10_draw
    simp only [litM]
    rw [grd_t hm, ldI_t hm, stI_t hm, ldI_t hm, sI_eq, grd_t (by rw [n_eq (by omega) (by omega)]; omega)]
    show some (((sdN (Y.1 m 34) >>> (nI 16 &&& nI 31)) &&& nI 32767) - ((sdN (Y.1 m 34) >>> (nI 16 &&& nI 31)) &&& nI 32767) / nI n * nI n, _) = _
    rw [eu, mod_n (by omega) (by omega)]
    rfl
/-- what is tried over the years: both alike, and nothing else touched -/
def YrI (X0 Y0 : Mx) (q m : Nat) (X Y : Mx) : Prop := StR X.1 (q + 1) (q + 1 + 5) (q + 1 + 9) (Y.1 (m + 3)) 931 ∧ X.1 q 6 = Y.1 m 34 ∧ FndF X0 X q 6 ∧ FrQ Y0 Y m ∧ Y.1 m 0 = Y0.1 m 0
theorem YrI.seed {X0 Y0 X Y : Mx} {q m : Nat} {v : Int32} (h : YrI X0 Y0 q m X Y) : YrI X0 Y0 q m (sI X q 6 v) (sI Y m 34 v) := by
  obtain ⟨h1, h2, h3, h4, h5⟩ := h
  refine ⟨h1.fr (Or.inl ⟨rfl, rfl⟩) (fun p a b => sI_ne (by omega)) (fun j hj => by rw [sI_ne (by omega)]), by rw [sI_eq, sI_eq], h3.trans (FndF.of rfl (fun p a b => sI_ne (by omega))), h4.trans (FrQ.fld (by omega)), by rw [sI_nk (by omega)]; exact h5⟩
theorem YrI.ed {X0 Y0 X Y X1 Y1 : Mx} {q m : Nat} {ok : Bool} (h : YrI X0 Y0 q m X Y) (e : ER ok (q + 1) (q + 1 + 5) (q + 1 + 9) m 931 X X1 Y Y1) : YrI X0 Y0 q m X1 Y1 := by
  obtain ⟨h1, h2, h3, h4, h5⟩ := h
  obtain ⟨e1, e2, e3, -⟩ := e
  refine ⟨e1, ?_, h3.trans (FndF.of e2.1 (fun p a b => e2.2 p (by omega))), h4.trans (FrQ.of3 e3.1 e3.2.1 (fun j hj => e3.2.2 j (by omega))), ?_⟩
  · rw [e2.2 q (by omega), e3.2.1 m (by omega)]; exact h2
  · rw [e3.2.1 m (by omega)]; exact h5
theorem year_both {σ τ : Sh} {X0 Y0 X Y : Mx} {q m : Nat} (hq : quOK σ q) (hm : mdOK τ m) (h : YrI X0 Y0 q m X Y) : ∃ ok X1 Y1, f_X3_passYear σ X q = some (bI ok, X1) ∧ f_X10_happens τ Y m = some (bI ok, Y1) ∧ YrI X0 Y0 q m X1 Y1 := by
  have q0 := hq.1
  have q1 := hq.2.1
  have qs := hq.2.2.2.2.2.2.1
  have m0 := hm.1
  obtain ⟨t, ht, a1, a2⟩ := draw_both (n := 2) q0 m0 (by omega) (by omega) h.2.1
  have h1 := h.seed (v := sdN (Y.1 m 34))
  obtain ⟨e, he, b1, b2⟩ := draw_both (n := 4) q0 m0 (by omega) (by omega) h1.2.1
  have h2 := h1.seed (v := sdN ((sI Y m 34 (sdN (Y.1 m 34))).1 m 34))
  revert h2 b1 b2
  generalize sI (sI X q 6 (sdN (Y.1 m 34))) q 6 (sdN ((sI Y m 34 (sdN (Y.1 m 34))).1 m 34)) = Xa
  generalize sI (sI Y m 34 (sdN (Y.1 m 34))) m 34 (sdN ((sI Y m 34 (sdN (Y.1 m 34))).1 m 34)) = Ya
  intro b1 b2 h2
  have hcl : f_X3_passYear σ X q = (if nI e = nI 3 then bnd2 (f_X3_draw σ Xa q (nI 9)) fun v26 X25 => bnd2 (f_X3_draw σ X25 q (nI 4)) fun v30 X29 => bnd2 (f_X5_doEdit σ X29 (q + 1) (nI e) (nI t) v26 v30 (nI 0)) fun v33 X32 => (if v33 = -(nI 1) then some (nI 0, X32) else some (nI 1, X32)) else bnd2 (f_X3_draw σ Xa q (nI 20)) fun v9 X8 => (if nI e = nI 0 then bnd2 (f_X3_draw σ X8 q (nI 9)) fun v12 X11 => bnd2 (f_X3_draw σ X11 q (nI 10)) fun v16 X15 => bnd2 (f_X5_doEdit σ X15 (q + 1) (nI e) (nI t) v9 v12 v16) fun v19 X18 => (if v19 = -(nI 1) then some (nI 0, X18) else some (nI 1, X18)) else bnd2 (f_X5_doEdit σ X8 (q + 1) (nI e) (nI t) v9 (nI 0) (nI 0)) fun v23 X22 => (if v23 = -(nI 1) then some (nI 0, X22) else some (nI 1, X22)))) := by
    unfold f_X3_passYear
    simp only [litM]
    rw [grd_t q0, a1, bnd2_k, b1, bnd2_k]
    simp only [ldR, q0, q1, if_true, Option.bind_some]
  have hmd : f_X10_happens τ Y m = (if nI e = nI 3 then f_X10_happens_25 τ m (nI t) (nI e) Ya m (nI 9) else f_X10_happens_25 τ m (nI t) (nI e) Ya m (nI 20)) := by
    unfold f_X10_happens
    simp only [litM]
    rw [grd_t m0, a2, bnd2_k, b2, bnd2_k]
  have vv : ∀ {ok : Bool} {v : Int32} {X1 : Mx}, (ok = false → v = -(nI 1)) → (ok = true → v ≠ -(nI 1)) → (if v = -(nI 1) then some (nI 0, X1) else some (nI 1, X1)) = some (bI ok, X1) := by
    intro ok v X1 hf ht
    cases ok with
    | false => rw [if_pos (hf rfl)]; rfl
    | true => rw [if_neg (ht rfl)]; rfl
  rcases (show e = 3 ∨ e = 0 ∨ e = 1 ∨ e = 2 by omega) with rfl | rfl | rfl | rfl
  · obtain ⟨x, hx, c1, c2⟩ := draw_both (n := 9) q0 m0 (by omega) (by omega) h2.2.1
    have h3 := h2.seed (v := sdN (Ya.1 m 34))
    obtain ⟨y, hy, d1, d2⟩ := draw_both (n := 4) q0 m0 (by omega) (by omega) h3.2.1
    have h4 := h3.seed (v := sdN ((sI Ya m 34 (sdN (Ya.1 m 34))).1 m 34))
    obtain ⟨ok, v, X1, Y1, e1, e2, e3, e4, e5⟩ := edit_rel (e := 3) (t := t) (x := nI x) (y := nI y) (z := nI 0) qs hm (by omega) ht (by omega) h4.1
    refine ⟨ok, X1, Y1, ?_, ?_, h4.ed e3⟩
    · rw [hcl, if_pos rfl, c1, bnd2_k, d1, bnd2_k, e1, bnd2_k]
      exact vv e4 (fun q => (e5 q).1)
    · rw [hmd, if_pos rfl]
      unfold f_X10_happens_25
      simp only [litM]
      rw [c2, bnd2_k, if_pos trivial, d2, bnd2_k]
      refine Eq.trans (congrArg (fun z => bnd2 z _) e2) ?_
      rw [bnd2_k, grd_t (of_eq_true (bI_01 ok))]
  · obtain ⟨x, hx, c1, c2⟩ := draw_both (n := 20) q0 m0 (by omega) (by omega) h2.2.1
    have h3 := h2.seed (v := sdN (Ya.1 m 34))
    obtain ⟨y, hy, d1, d2⟩ := draw_both (n := 9) q0 m0 (by omega) (by omega) h3.2.1
    have h4 := h3.seed (v := sdN ((sI Ya m 34 (sdN (Ya.1 m 34))).1 m 34))
    obtain ⟨w, hw, i1, i2⟩ := draw_both (n := 10) q0 m0 (by omega) (by omega) h4.2.1
    have h5 := h4.seed (v := sdN ((sI (sI Ya m 34 (sdN (Ya.1 m 34))) m 34 (sdN ((sI Ya m 34 (sdN (Ya.1 m 34))).1 m 34))).1 m 34))
    obtain ⟨ok, v, X1, Y1, e1, e2, e3, e4, e5⟩ := edit_rel (e := 0) (t := t) (x := nI x) (y := nI y) (z := nI w) qs hm (by omega) ht (by omega) h5.1
    refine ⟨ok, X1, Y1, ?_, ?_, h5.ed e3⟩
    · rw [hcl, if_neg (by decide), c1, bnd2_k, if_pos rfl, d1, bnd2_k, i1, bnd2_k, e1, bnd2_k]
      exact vv e4 (fun q => (e5 q).1)
    · rw [hmd, if_neg (by decide)]
      unfold f_X10_happens_25
      simp only [litM]
      rw [c2, bnd2_k, if_neg (by decide), if_pos (Int32.le_refl _), d2, bnd2_k, i2, bnd2_k]
      refine Eq.trans (congrArg (fun z => bnd2 z _) e2) ?_
      rw [bnd2_k, grd_t (of_eq_true (bI_01 ok))]
  · obtain ⟨x, hx, c1, c2⟩ := draw_both (n := 20) q0 m0 (by omega) (by omega) h2.2.1
    have h3 := h2.seed (v := sdN (Ya.1 m 34))
    obtain ⟨ok, v, X1, Y1, e1, e2, e3, e4, e5⟩ := edit_rel (e := 1) (t := t) (x := nI x) (y := nI 0) (z := nI 0) qs hm (by omega) ht (by omega) h3.1
    refine ⟨ok, X1, Y1, ?_, ?_, h3.ed e3⟩
    · rw [hcl, if_neg (by decide), c1, bnd2_k, if_neg (by decide), e1, bnd2_k]
      exact vv e4 (fun q => (e5 q).1)
    · rw [hmd, if_neg (by decide)]
      unfold f_X10_happens_25 f_X10_happens_73
      simp only [litM]
      rw [c2, bnd2_k, if_neg (by decide), if_neg (by decide), if_pos trivial]
      refine Eq.trans (congrArg (fun z => bnd2 z _) e2) ?_
      rw [bnd2_k, grd_t (of_eq_true (bI_01 ok))]
  · obtain ⟨x, hx, c1, c2⟩ := draw_both (n := 20) q0 m0 (by omega) (by omega) h2.2.1
    have h3 := h2.seed (v := sdN (Ya.1 m 34))
    obtain ⟨ok, v, X1, Y1, e1, e2, e3, e4, e5⟩ := edit_rel (e := 2) (t := t) (x := nI x) (y := nI 0) (z := nI 0) qs hm (by omega) ht (by omega) h3.1
    refine ⟨ok, X1, Y1, ?_, ?_, h3.ed e3⟩
    · rw [hcl, if_neg (by decide), c1, bnd2_k, if_neg (by decide), e1, bnd2_k]
      exact vv e4 (fun q => (e5 q).1)
    · rw [hmd, if_neg (by decide)]
      unfold f_X10_happens_25 f_X10_happens_73
      simp only [litM]
      rw [c2, bnd2_k, if_neg (by decide), if_neg (by decide), if_neg (by decide)]
      refine Eq.trans (congrArg (fun z => bnd2 z _) e2) ?_
      rw [bnd2_k, grd_t (of_eq_true (bI_01 ok))]
