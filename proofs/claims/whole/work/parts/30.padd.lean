/-! ===== added columns ===== -/
theorem MI.src1 {B n g m : Nat} {P : Nat → Prop} {ch : Nat → Int32} {Lh Rh : Int32} {X0 X Y0 Y : Mx} {v : Int32} {j : Nat} (h : MI B P n ch Lh Rh X0 X g Y0 Y m) (hj : ∀ c, c < 9 → bt (Y.1 m 20) c = true → j ≠ c ∧ j ≠ 9 + c) : MI B P n ch Lh Rh X0 X g Y0 (sI Y (m + 9) j v) m := by
  obtain ⟨f1, f2, t, cf, u, sr⟩ := h
  refine ⟨f1, ⟨f2.1, fun q h1 h2 => ?_, fun i h1 h2 h3 => ?_⟩, ?_, ?_, ?_, ?_⟩
  · rw [sI_ne (by omega)]; exact f2.2.1 q h1 h2
  · rw [sI_na (by omega)]; exact f2.2.2 i h1 h2 h3
  · simp (disch := first | assumption | omega) only [sI_na, sI_ne]; exact t
  · simp (disch := first | assumption | omega) only [sI_na, sI_ne]; exact cf
  · simp (disch := first | assumption | omega) only [sI_na, sI_ne]; exact u
  · simp (disch := first | assumption | omega) only [sI_na]
    intro i hi hbi
    obtain ⟨a1, a2⟩ := hj i hi hbi
    rw [sI_nk (fun e => a1 e.symm), sI_nk (fun e => a2 e.symm)]
    exact sr i hi hbi
theorem MI.cr1 {B n g m : Nat} {P : Nat → Prop} {ch : Nat → Int32} {Lh Rh : Int32} {X0 X Y0 Y : Mx} {v : Int32} {j : Nat} (h : MI B P n ch Lh Rh X0 X g Y0 Y m) (hj : bt (Y.1 m 20) j = false) : MI B P n ch Lh Rh X0 (sI X (g + 9) j v) g Y0 Y m := by
  obtain ⟨f1, f2, t, cf, u, sr⟩ := h
  refine ⟨⟨f1.1, fun q hq => ?_⟩, f2, ?_, ?_, ?_, ?_⟩
  · rw [sI_ne (by omega)]; exact f1.2 q hq
  · simp (disch := first | assumption | omega) only [sI_na, sI_ne]; exact t
  · simp (disch := first | assumption | omega) only [sI_na, sI_ne]; exact cf
  · simp (disch := first | assumption | omega) only [sI_na, sI_ne]; exact u
  · intro i hi hbi
    rw [sI_nk (fun e => by rw [e, hj] at hbi; cases hbi)]
    exact sr i hi hbi
theorem MI.twin {B n g m c : Nat} {P : Nat → Prop} {ch : Nat → Int32} {Lh Rh : Int32} {X0 X Y0 Y : Mx} {l : Nat} (h : MI B P n ch Lh Rh X0 X g Y0 Y m) (hl : l = 5 ∨ l = 6) (hc : c = 7 ∨ c = 8) : MI B P n ch Lh Rh X0 (sI X (g + 9) l (nI c)) g Y0 (sI Y (m + 9) (9 + l) (nI c)) m := by
  obtain ⟨f1, f2, t, cf, u, sr⟩ := h
  refine ⟨⟨f1.1, fun q hq => ?_⟩, ⟨f2.1, fun q h1 h2 => ?_, fun i h1 h2 h3 => ?_⟩, ?_, ?_, ?_, ?_⟩
  · rw [sI_ne (by omega)]; exact f1.2 q hq
  · rw [sI_ne (by omega)]; exact f2.2.1 q h1 h2
  · rw [sI_na (by omega)]; exact f2.2.2 i h1 h2 h3
  · simp (disch := first | assumption | omega) only [sI_na, sI_ne]; exact t
  · simp (disch := first | assumption | omega) only [sI_na, sI_ne]; exact cf
  · simp (disch := first | assumption | omega) only [sI_na, sI_ne]; exact u
  · simp (disch := first | assumption | omega) only [sI_na]
    intro i hi hbi
    obtain ⟨r1, r2, r3⟩ := sr i hi hbi
    rw [sI_nk (show i ≠ 9 + l by omega)]
    by_cases e : i = l
    · subst e
      obtain ⟨a1, a2, -, -⟩ := r2 (by omega) (by omega)
      rw [sI_eq, sI_eq]
      exact ⟨fun q => by omega, fun _ _ => ⟨a1, a2, rfl, Or.inr (hc.elim (fun e => Or.inl (by rw [e])) (fun e => Or.inr (by rw [e])))⟩, fun q => by omega⟩
    · rw [sI_nk e, sI_nk (by omega)]
      exact ⟨r1, r2, r3⟩
def PA (c n : Nat) (ch : Nat → Int32) (Lh Rh : Int32) (L : Nat) (X0 X : Mx) (g : Nat) (Y0 Y : Mx) (m : Nat) : Prop :=
  MI 0 (P1 5) n ch Lh Rh X0 X g Y0 Y m ∧ n ≤ 10 ∧ (∀ j, bt (Y.1 m 21) j = false) ∧ (∀ j, j < 9 → X.1 (g + 9) j = if 5 ≤ j ∧ j < c then -(nI 1) else nI j) ∧ (∀ j, 5 ≤ j → j < 9 → Y.1 (m + 9) (9 + j) = -(nI 1)) ∧ (∀ j, c ≤ j → j < 9 → Y.1 (m + 9) j = -(nI 1)) ∧ (∀ j, c ≤ j → bt (Y.1 m 20) j = false) ∧
  (∀ j, 5 ≤ j → j < c → bt (Y.1 m 20) j = bt Lh j ∧ (bt Lh j = true → Y.1 (m + 5) j = X0.1 (L + 1) j ∧ Y.1 (m + 6) j = X0.1 (L + 2) j))
theorem addL_rel {σ τ : Sh} {n g m s L R b c N M : Nat} {ch : Nat → Int32} {Lh Rh : Int32} {X0 X Y0 Y : Mx} (hg : mgOK σ g) (hs : stOK σ s L R) (hm : mdOK τ m) (hb : b ≤ 931) (hd : s + 16 < g ∨ g + 9 < s) (hS0 : StR X0.1 s L R (Y0.1 (m + 3)) b) (hLh : Lh = X0.1 L 0) (hc5 : 5 ≤ c) (hc : c < 7) (h : PA c n ch Lh Rh L X0 X g Y0 Y m) :
    ∃ X1 Y1, f_X2_mergeAddedColumns_2 σ g s (N + 1) X (nI c) = f_X2_mergeAddedColumns_2 σ g s N X1 (nI (c + 1)) ∧ f_X10_mergesAdded_2 τ m (nI b) (M + 1) Y (nI c) = f_X10_mergesAdded_2 τ m (nI b) M Y1 (nI (c + 1)) ∧ PA (c + 1) n ch Lh Rh L X0 X1 g Y0 Y1 m := by
  obtain ⟨hM, hn, hk, hcr, hs9, hs0, hh, hnm⟩ := h
  have hS := hM.st hs hd hS0
  have hLR := hs.2.2.2.2.2.2.2.2.2.2.2.2.2.2.2.2.2.2
  have xL : ∀ q, q < 4 → X.1 (L + q) = X0.1 (L + q) := fun q hq => hM.1.2 _ (by omega)
  have xL0 : X.1 L = X0.1 L := xL 0 (by omega)
  obtain ⟨tL, -⟩ := hS
  have wl : bt (Y.1 (m + 3) (b + 200 * 0)) c = bt Lh c := by rw [← tL.1, hLh, ← xL0]
  have hM1 := hM.cr1 (v := -(nI 1)) (hh c (by omega))
  have hs' := hs
  have hg' := hg
  have hm' := hm
  have ec : f_X2_mergeAddedColumns_2 σ g s (N + 1) X (nI c) = if bt Lh c = true then f_X2_mergeAddedColumns_2 σ g s N (sI (sI (sI (sI X (g + 9) c (-(nI 1))) (g + 1) 0 ((sI X (g + 9) c (-(nI 1))).1 (g + 1) 0 ||| ((1 : Int32) <<< (nI c &&& 31)))) (g + 2) c (X0.1 (L + 1) c)) (g + 3) c (X0.1 (L + 2) c)) (nI (c + 1)) else f_X2_mergeAddedColumns_2 σ g s N (sI X (g + 9) c (-(nI 1))) (nI (c + 1)) := by
    rw [f_X2_mergeAddedColumns_2]
    obtain ⟨g0, g1, g2, g3, g4, g5, g6, gT, k5, l5, k6, l6, k7, l7, k8, l8, k9, l9⟩ := hg
    obtain ⟨s0, s1, s2, s3, s4, s5, s6, s7, s8, s9, s10, s11, s12, s13, s14, s15, s16, s17, s18⟩ := hs
    have e1 : bt ((sI X (g + 9) c (-(nI 1))).1 L 0) c = bt Lh c := by rw [sI_na (by omega), hLh, ← xL0]
    have hL9 := s9
    obtain ⟨u1, u2, u3, u4, u5, u6, u7, u8, u9, u10⟩ := s9
    have e2 : (sI X (g + 9) c (-(nI 1))).1 (L + 1) c = X0.1 (L + 1) c := by rw [sI_na (by omega), xL 1 (by omega)]
    have e3 : (sI X (g + 9) c (-(nI 1))).1 (L + 2) c = X0.1 (L + 2) c := by rw [sI_na (by omega), xL 2 (by omega)]
    simp (disch := first | assumption | omega) only [litM, grd_t, grd_T, ldI_t, stI_t, ldA_t, stA_t, lenA_t, n_lt_t, n_lt_f, n_le_t, n_le_f, n_eq_t, n_eq_f, if_true, if_false, nI_add, nI_mul, bt_d, bI_z, bI_o, Option.bind_some, Bool.true_eq_false, Bool.false_eq_true, ldR, eq_self, if_true, Option.bind_some, s0, s2, g0, g1, g6, u1, u2, u3, s_hasColumn hL9, s_putColumn gT, inB_n, e1, e2, e3, f_X2_mergeAddedColumns_52]
    cases bt Lh c
    · rfl
    · rfl
  have em : f_X10_mergesAdded_2 τ m (nI b) (M + 1) Y (nI c) = if bt Lh c = true then f_X10_mergesAdded_2 τ m (nI b) M (sI (sI (sI (sI Y (m + 9) c (nI c)) m 20 ((sI Y (m + 9) c (nI c)).1 m 20 ||| ((1 : Int32) <<< (nI c &&& 31)))) (m + 5) c (X0.1 (L + 1) c)) (m + 6) c (X0.1 (L + 2) c)) (nI (c + 1)) else f_X10_mergesAdded_2 τ m (nI b) M Y (nI (c + 1)) := by
    rw [f_X10_mergesAdded_2]
    cases el : bt Lh c with
    | false =>
      have e1 : f_X10_hasColumn τ Y m (nI b) (nI 0) (nI c) = some (nI 0) := by rw [s10_hasColumn hm hb (by omega), inB_n (by omega) (by omega), wl, el]; rfl
      simp (disch := first | assumption | omega) only [litM, grd_t, grd_T, ldI_t, stI_t, ldA_t, stA_t, lenA_t, n_lt_t, n_lt_f, n_le_t, n_le_f, n_eq_t, n_eq_f, if_true, if_false, nI_add, nI_mul, bt_d, bI_z, bI_o, Option.bind_some, Bool.true_eq_false, Bool.false_eq_true, e1, f_X10_mergesAdded_47]
    | true =>
      have bl : bt (X.1 L 0) c = true := by rw [← el, hLh, ← xL0]
      have e1 : f_X10_hasColumn τ Y m (nI b) (nI 0) (nI c) = some (nI 1) := by rw [s10_hasColumn hm hb (by omega), inB_n (by omega) (by omega), wl, el]; rfl
      have e2 : f_X10_nameAt τ (sI Y (m + 9) c (nI c)) m (nI b) (nI 0) (nI c) = some (X0.1 (L + 1) c) := by rw [s10_nameAt hm hb (by omega) (by omega), sI_na (by omega), ← (tL.2.2.2.2.1 c (by omega) bl).1, xL 1 (by omega)]
      have e3 : f_X10_typeAt τ (sI Y (m + 9) c (nI c)) m (nI b) (nI 0) (nI c) = some (X0.1 (L + 2) c) := by rw [s10_typeAt hm hb (by omega) (by omega), sI_na (by omega), ← (tL.2.2.2.2.1 c (by omega) bl).2.1, xL 2 (by omega)]
      obtain ⟨m0, m1, m2, m3, m4, m5, m6, m7, m8, m9, m10, m11, m12, m13, m14, m15, m16, m17, mq1, mq2, mq3, mq4, mq5, mq6, mq7, mq8, mq9, mq10, mq11, mq12, mq13, mq14, mq15, mq16, mq17, mn1, mn2, mn3, mn4, mn5, mn6, mn7, mn8, mn9, mn10, mn11, mn12, mn13, mn14, mn15, mn16, mn17⟩ := hm
      simp (disch := first | assumption | omega) only [litM, grd_t, grd_T, ldI_t, stI_t, ldA_t, stA_t, lenA_t, n_lt_t, n_lt_f, n_le_t, n_le_f, n_eq_t, n_eq_f, if_true, if_false, nI_add, nI_mul, bt_d, bI_z, bI_o, Option.bind_some, Bool.true_eq_false, Bool.false_eq_true, ldR, eq_self, if_true, Option.bind_some, m0, m9, e1, e2, e3, s10_takes hm', f_X10_mergesAdded_47]
  rw [ec, em]
  cases el : bt Lh c with
  | false =>
    refine ⟨_, _, rfl, rfl, hM1, hn, hk, fun j hj => ?_, hs9, fun j h1 h2 => hs0 j (by omega) h2, fun j hj => hh j (by omega), fun j h1 h2 => ?_⟩
    · by_cases e : j = c
      · subst e; rw [sI_eq, if_pos (by omega)]
      · rw [sI_nk e, hcr j hj]
        by_cases e2 : 5 ≤ j ∧ j < c
        · rw [if_pos e2, if_pos (by omega)]
        · rw [if_neg e2, if_neg (by omega)]
    · by_cases e : j = c
      · subst e; rw [hh j (by omega), el]; exact ⟨rfl, fun q => by cases q⟩
      · exact hnm j h1 (by omega)
  | true =>
    have bl : bt (X.1 L 0) c = true := by rw [← el, hLh, ← xL0]
    have hq := (tL.2.2.2.2.1 c (by omega) bl).2.2
    rw [xL 2 (by omega)] at hq
    have hM2 := hM1.src1 (v := nI c) (j := c) (fun i hi hbi => by
      have : i ≠ c := fun e => by rw [e, hh c (by omega)] at hbi; cases hbi
      omega)
    have hk2 : ∀ j, bt ((sI Y (m + 9) c (nI c)).1 m 21) j = false := fun j => by rw [sI_na (by omega)]; exact hk j
    have hput := hM2.put (nm := X0.1 (L + 1) c) (ty := X0.1 (L + 2) c) hk2 (show c < 9 by omega) hq ⟨fun q => by omega, fun _ _ => ⟨el, sI_eq, by rw [sI_eq, sI_nk (by omega), hs9 c (by omega) (by omega)], Or.inl (by rw [sI_nk (by omega), hs9 c (by omega) (by omega)])⟩, fun q => by omega⟩
    refine ⟨_, _, rfl, rfl, hput, hn, fun j => ?_, fun j hj => ?_, fun j h1 h2 => ?_, fun j h1 h2 => ?_, fun j hj => ?_, fun j h1 h2 => ?_⟩
    · simp (disch := first | assumption | omega) only [sI_na, sI_nk]; exact hk j
    · simp (disch := first | assumption | omega) only [sI_na]
      by_cases e : j = c
      · subst e; rw [sI_eq, if_pos (by omega)]
      · rw [sI_nk e, hcr j hj]
        by_cases e2 : 5 ≤ j ∧ j < c
        · rw [if_pos e2, if_pos (by omega)]
        · rw [if_neg e2, if_neg (by omega)]
    · simp (disch := first | assumption | omega) only [sI_na]; rw [sI_nk (by omega)]; exact hs9 j h1 h2
    · simp (disch := first | assumption | omega) only [sI_na]; rw [sI_nk (by omega)]; exact hs0 j (by omega) h2
    · simp (disch := first | assumption | omega) only [sI_na, sI_eq]
      rw [bt_set (by omega), hh j (by omega)]; simp; omega
    · simp (disch := first | assumption | omega) only [sI_na, sI_eq]
      rw [bt_set (by omega)]
      by_cases e : j = c
      · subst e
        simp (disch := first | assumption | omega) only [sI_na, sI_eq]
        rw [el]; exact ⟨by simp, fun _ => ⟨trivial, trivial⟩⟩
      · simp (disch := first | assumption | omega) only [sI_na, sI_nk]
        have := hnm j h1 (by omega)
        simp [e]; exact this
def PB (c n : Nat) (ch : Nat → Int32) (Lh Rh : Int32) (L : Nat) (X0 X : Mx) (g : Nat) (Y0 Y : Mx) (m : Nat) : Prop :=
  MI 0 (P1 5) n ch Lh Rh X0 X g Y0 Y m ∧ n ≤ 10 ∧ (∀ j, bt (Y.1 m 21) j = false) ∧ (∀ j, 7 ≤ j → j < 9 → X.1 (g + 9) j = nI j) ∧ (∀ j, 7 ≤ j → j < 9 → Y.1 (m + 9) j = -(nI 1)) ∧ (∀ j, c ≤ j → bt (Y.1 m 20) j = false) ∧
  (∀ j, 5 ≤ j → j < 7 → X.1 (g + 9) j = Y.1 (m + 9) (9 + j) ∧ bt (Y.1 m 20) j = bt Lh j ∧ (bt Lh j = true → Y.1 (m + 5) j = X0.1 (L + 1) j ∧ Y.1 (m + 6) j = X0.1 (L + 2) j))
/-- a column of LEFT that goes with one of RIGHT -/
def twB (Lh : Int32) (L R : Nat) (X0 : Mx) (so : Nat → Int32) (c l : Nat) : Bool := bt Lh l && decide (so (9 + l) = -(nI 1)) && decide (X0.1 (L + 1) l = X0.1 (R + 1) c) && decide (X0.1 (L + 2) l = X0.1 (R + 2) c)
theorem addR_rel {σ τ : Sh} {n g m s L R b c N M : Nat} {ch : Nat → Int32} {Lh Rh : Int32} {X0 X Y0 Y : Mx} (hg : mgOK σ g) (hs : stOK σ s L R) (hm : mdOK τ m) (hb : b ≤ 931) (hd : s + 16 < g ∨ g + 9 < s) (hS0 : StR X0.1 s L R (Y0.1 (m + 3)) b) (hLh : Lh = X0.1 L 0) (hRh : Rh = X0.1 R 0) (hc7 : 7 ≤ c) (hc : c < 9) (h : PB c n ch Lh Rh L X0 X g Y0 Y m) :
    ∃ X1 Y1, f_X2_mergeAddedColumns_61 σ g s (N + 1) X (nI c) = f_X2_mergeAddedColumns_61 σ g s N X1 (nI (c + 1)) ∧ f_X10_mergesAdded_56 τ m (nI b) (M + 1) Y (nI c) = f_X10_mergesAdded_56 τ m (nI b) M Y1 (nI (c + 1)) ∧ PB (c + 1) n ch Lh Rh L X0 X1 g Y0 Y1 m := by
  have hPB := h
  obtain ⟨hM, hn, hk, hcr, hs0, hh, hnm⟩ := h
  have hS := hM.st hs hd hS0
  have hLR := hs.2.2.2.2.2.2.2.2.2.2.2.2.2.2.2.2.2.2
  have xL : ∀ q, q < 4 → X.1 (L + q) = X0.1 (L + q) := fun q hq => hM.1.2 _ (by omega)
  have xL0 : X.1 L = X0.1 L := xL 0 (by omega)
  have xR : ∀ q, q < 4 → X.1 (R + q) = X0.1 (R + q) := fun q hq => hM.1.2 _ (by omega)
  have xR0 : X.1 R = X0.1 R := xR 0 (by omega)
  obtain ⟨tL, tR, -⟩ := hS
  have wr : bt (Y.1 (m + 3) (b + 200 * 1)) c = bt Rh c := by rw [← tR.1, hRh, ← xR0]
  have wl : ∀ l, bt (Y.1 (m + 3) (b + 200 * 0)) l = bt Lh l := fun l => by rw [← tL.1, hLh, ← xL0]
  have hs' := hs
  have hg' := hg
  have hm' := hm
  have hcr9 : bt (X.1 R 0) c = bt Rh c := by rw [hRh, ← xR0]
  cases er : bt Rh c with
  | false =>
    refine ⟨X, Y, ?_, ?_, hM, hn, hk, hcr, hs0, fun j hj => hh j (by omega), hnm⟩
    · rw [f_X2_mergeAddedColumns_61]
      obtain ⟨s0, s1, s2, s3, s4, s5, s6, s7, s8, s9, s10, s11, s12, s13, s14, s15, s16, s17, s18⟩ := hs
      simp (disch := first | assumption | omega) only [litM, grd_t, grd_T, ldI_t, stI_t, ldA_t, stA_t, lenA_t, n_lt_t, n_lt_f, n_le_t, n_le_f, n_eq_t, n_eq_f, if_true, if_false, nI_add, nI_mul, bt_d, bI_z, bI_o, Option.bind_some, Bool.true_eq_false, Bool.false_eq_true, ldR, eq_self, if_true, Option.bind_some, s0, s3, s_hasColumn s10, inB_n, hcr9, er, f_X2_mergeAddedColumns_126]
    · rw [f_X10_mergesAdded_56]
      have e1 : f_X10_hasColumn τ Y m (nI b) (nI 1) (nI c) = some (nI 0) := by rw [s10_hasColumn hm hb (by omega), inB_n (by omega) (by omega), wr, er]; rfl
      simp (disch := first | assumption | omega) only [litM, grd_t, grd_T, ldI_t, stI_t, ldA_t, stA_t, lenA_t, n_lt_t, n_lt_f, n_le_t, n_le_f, n_eq_t, n_eq_f, if_true, if_false, nI_add, nI_mul, bt_d, bI_z, bI_o, Option.bind_some, Bool.true_eq_false, Bool.false_eq_true, e1, f_X10_mergesAdded_189]
  | true =>
    have br : bt (X.1 R 0) c = true := hcr9.trans er
    obtain ⟨rn, rt, rq⟩ := tR.2.2.2.2.1 c (by omega) br
    rw [xR 1 (by omega)] at rn
    rw [xR 2 (by omega)] at rt rq
    -- the class's search
    have tw1 : ∀ (n0 l : Nat), 5 ≤ l → l < 7 → f_X2_twinInLeft_2 σ X g s (nI c) (n0 + 1) (nI l) = if twB Lh L R X0 (Y.1 (m + 9)) c l = true then some (nI l) else f_X2_twinInLeft_2 σ X g s (nI c) n0 (nI (l + 1)) := by
      intro n0 l hl5 hl7
      rw [f_X2_twinInLeft_2]
      obtain ⟨a1, a2, a3⟩ := hnm l hl5 hl7
      have el : bt (X.1 L 0) l = bt Lh l := by rw [hLh, ← xL0]
      obtain ⟨g0, g1, g2, g3, g4, g5, g6, gT, k5, l5, k6, l6, k7, l7, k8, l8, k9, l9⟩ := hg
      obtain ⟨s0, s1, s2, s3, s4, s5, s6, s7, s8, s9, s10, s11, s12, s13, s14, s15, s16, s17, s18⟩ := hs
      have hL9 := s9
      obtain ⟨u1, u2, u3, u4, u5, u6, u7, u8, u9, u10⟩ := s9
      obtain ⟨w1, w2, w3, w4, w5, w6, w7, w8, w9, w10⟩ := s10
      simp (disch := first | assumption | omega) only [litM, grd_t, grd_T, ldI_t, stI_t, ldA_t, stA_t, lenA_t, n_lt_t, n_lt_f, n_le_t, n_le_f, n_eq_t, n_eq_f, if_true, if_false, nI_add, nI_mul, bt_d, bI_z, bI_o, Option.bind_some, Bool.true_eq_false, Bool.false_eq_true, ldR, eq_self, if_true, Option.bind_some, s0, s2, s3, g0, g6, u1, u2, u3, w1, w2, w3, s_hasColumn hL9, inB_n, el, f_X2_twinInLeft_73, a1, xL, xR]
      rw [show twB Lh L R X0 (Y.1 (m + 9)) c l = (bt Lh l && decide (Y.1 (m + 9) (9 + l) = -(nI 1)) && decide (X0.1 (L + 1) l = X0.1 (R + 1) c) && decide (X0.1 (L + 2) l = X0.1 (R + 2) c)) from rfl]
      cases bt Lh l
      · simp
      · by_cases e1 : Y.1 (m + 9) (9 + l) = -(nI 1)
        · by_cases e2 : X0.1 (L + 1) l = X0.1 (R + 1) c
          · by_cases e3 : X0.1 (L + 2) l = X0.1 (R + 2) c <;> simp [e1, e2, e3]
          · simp [e1, e2]
        · simp [e1]
    have tw2 : f_X2_twinInLeft σ X g s (nI c) = some (if twB Lh L R X0 (Y.1 (m + 9)) c 5 = true then nI 5 else if twB Lh L R X0 (Y.1 (m + 9)) c 6 = true then nI 6 else -(nI 1)) := by
      unfold f_X2_twinInLeft
      rw [grd_t hg.1]
      have e0 : f_X2_twinInLeft_2 σ X g s (nI c) FU 5 = f_X2_twinInLeft_2 σ X g s (nI c) (39999 + 1) (nI 5) := rfl
      rw [e0, tw1 39999 5 (by omega) (by omega), show (39999 : Nat) = 39998 + 1 from rfl, tw1 39998 6 (by omega) (by omega), show (39998 : Nat) = 39997 + 1 from rfl, f_X2_twinInLeft_2]
      simp (disch := first | assumption | omega) only [litM, grd_t, grd_T, ldI_t, stI_t, ldA_t, stA_t, lenA_t, n_lt_t, n_lt_f, n_le_t, n_le_f, n_eq_t, n_eq_f, if_true, if_false, nI_add, nI_mul, bt_d, bI_z, bI_o, Option.bind_some, Bool.true_eq_false, Bool.false_eq_true]
      cases twB Lh L R X0 (Y.1 (m + 9)) c 5
      · cases twB Lh L R X0 (Y.1 (m + 9)) c 6 <;> rfl
      · rfl
    -- the reference's search
    have tm1 : ∀ (k56 : Mx → Int32 → Option Mx) (n0 l : Nat) (x : Int32), 5 ≤ l → l < 7 → f_X10_mergesAdded_81 k56 τ m (nI b) (nI c) (n0 + 1) Y x (nI l) = f_X10_mergesAdded_81 k56 τ m (nI b) (nI c) n0 Y (if twB Lh L R X0 (Y.1 (m + 9)) c l = true then nI l else x) (nI l + -(nI 1)) := by
      intro k56 n0 l x hl5 hl7
      rw [f_X10_mergesAdded_81]
      obtain ⟨a1, a2, a3⟩ := hnm l hl5 hl7
      have e1 : f_X10_hasColumn τ Y m (nI b) (nI 0) (nI l) = some (bI (bt Lh l)) := by rw [s10_hasColumn hm hb (by omega), inB_n (by omega) (by omega), wl]
      have e2 : f_X10_nameAt τ Y m (nI b) (nI 1) (nI c) = some (X0.1 (R + 1) c) := by rw [s10_nameAt hm hb (by omega) (by omega), ← rn]
      have e3 : f_X10_typeAt τ Y m (nI b) (nI 1) (nI c) = some (X0.1 (R + 2) c) := by rw [s10_typeAt hm hb (by omega) (by omega), ← rt]
      obtain ⟨m0, m1, m2, m3, m4, m5, m6, m7, m8, m9, m10, m11, m12, m13, m14, m15, m16, m17, mq1, mq2, mq3, mq4, mq5, mq6, mq7, mq8, mq9, mq10, mq11, mq12, mq13, mq14, mq15, mq16, mq17, mn1, mn2, mn3, mn4, mn5, mn6, mn7, mn8, mn9, mn10, mn11, mn12, mn13, mn14, mn15, mn16, mn17⟩ := hm
      simp (disch := first | assumption | omega) only [litM, grd_t, grd_T, ldI_t, stI_t, ldA_t, stA_t, lenA_t, n_lt_t, n_lt_f, n_le_t, n_le_f, n_eq_t, n_eq_f, if_true, if_false, nI_add, nI_mul, bt_d, bI_z, bI_o, Option.bind_some, Bool.true_eq_false, Bool.false_eq_true, ldR, eq_self, if_true, Option.bind_some, m0, m5, m6, m9, e1, e2, e3, f_X10_mergesAdded_149]
      rw [show twB Lh L R X0 (Y.1 (m + 9)) c l = (bt Lh l && decide (Y.1 (m + 9) (9 + l) = -(nI 1)) && decide (X0.1 (L + 1) l = X0.1 (R + 1) c) && decide (X0.1 (L + 2) l = X0.1 (R + 2) c)) from rfl]
      cases el : bt Lh l with
      | false => simp
      | true =>
        obtain ⟨a4, a5⟩ := a3 el
        rw [a4, a5]
        by_cases e4 : Y.1 (m + 9) (9 + l) = -(nI 1)
        · by_cases e5 : X0.1 (L + 1) l = X0.1 (R + 1) c
          · by_cases e6 : X0.1 (L + 2) l = X0.1 (R + 2) c <;> simp [e4, e5, e6]
          · simp [e4, e5]
        · simp [e4]
    have tm2 : ∀ (k56 : Mx → Int32 → Option Mx), f_X10_mergesAdded_81 k56 τ m (nI b) (nI c) FU Y (nI c) (nI 6) = f_X10_mergesAdded_81 k56 τ m (nI b) (nI c) (39997 + 1) Y (if twB Lh L R X0 (Y.1 (m + 9)) c 5 = true then nI 5 else if twB Lh L R X0 (Y.1 (m + 9)) c 6 = true then nI 6 else nI c) (nI 4) := by
      intro k56
      have e0 : f_X10_mergesAdded_81 k56 τ m (nI b) (nI c) FU Y (nI c) (nI 6) = f_X10_mergesAdded_81 k56 τ m (nI b) (nI c) (39999 + 1) Y (nI c) (nI 6) := rfl
      rw [e0, tm1 k56 39999 6 _ (by omega) (by omega), show nI 6 + -(nI 1) = nI 5 from by decide, show (39999 : Nat) = 39998 + 1 from rfl, tm1 k56 39998 5 _ (by omega) (by omega), show nI 5 + -(nI 1) = nI 4 from by decide]
    have em : f_X10_mergesAdded_56 τ m (nI b) (M + 1) Y (nI c) = f_X10_mergesAdded_81 (f_X10_mergesAdded_56 τ m (nI b) M) τ m (nI b) (nI c) FU Y (nI c) (nI 6) := by
      rw [f_X10_mergesAdded_56]
      have e1 : f_X10_hasColumn τ Y m (nI b) (nI 1) (nI c) = some (nI 1) := by rw [s10_hasColumn hm hb (by omega), inB_n (by omega) (by omega), wr, er]; rfl
      simp (disch := first | assumption | omega) only [litM, grd_t, grd_T, ldI_t, stI_t, ldA_t, stA_t, lenA_t, n_lt_t, n_lt_f, n_le_t, n_le_f, n_eq_t, n_eq_f, if_true, if_false, nI_add, nI_mul, bt_d, bI_z, bI_o, Option.bind_some, Bool.true_eq_false, Bool.false_eq_true, e1]
    have ec : f_X2_mergeAddedColumns_61 σ g s (N + 1) X (nI c) = (if (if twB Lh L R X0 (Y.1 (m + 9)) c 5 = true then nI 5 else if twB Lh L R X0 (Y.1 (m + 9)) c 6 = true then nI 6 else -(nI 1)) = -(nI 1) then f_X2_mergeAddedColumns_61 σ g s N (sI (sI (sI X (g + 1) 0 (X.1 (g + 1) 0 ||| ((1 : Int32) <<< (nI c &&& 31)))) (g + 2) c (X0.1 (R + 1) c)) (g + 3) c (X0.1 (R + 2) c)) (nI (c + 1)) else stA σ X 10 (g + 9) (if twB Lh L R X0 (Y.1 (m + 9)) c 5 = true then nI 5 else if twB Lh L R X0 (Y.1 (m + 9)) c 6 = true then nI 6 else -(nI 1)) (nI c) fun X7 => f_X2_mergeAddedColumns_61 σ g s N X7 (nI (c + 1))) := by
      rw [f_X2_mergeAddedColumns_61]
      obtain ⟨g0, g1, g2, g3, g4, g5, g6, gT, k5, l5, k6, l6, k7, l7, k8, l8, k9, l9⟩ := hg
      obtain ⟨s0, s1, s2, s3, s4, s5, s6, s7, s8, s9, s10, s11, s12, s13, s14, s15, s16, s17, s18⟩ := hs
      have hR10 := s10
      obtain ⟨w1, w2, w3, w4, w5, w6, w7, w8, w9, w10⟩ := s10
      simp (disch := first | assumption | omega) only [litM, grd_t, grd_T, ldI_t, stI_t, ldA_t, stA_t, lenA_t, n_lt_t, n_lt_f, n_le_t, n_le_f, n_eq_t, n_eq_f, if_true, if_false, nI_add, nI_mul, bt_d, bI_z, bI_o, Option.bind_some, Bool.true_eq_false, Bool.false_eq_true, ldR, eq_self, if_true, Option.bind_some, s0, s3, g0, g1, g6, w1, w2, w3, s_hasColumn hR10, s_putColumn gT, inB_n, br, tw2, xR, f_X2_mergeAddedColumns_126]
    rw [ec, em, tm2, f_X10_mergesAdded_81]
    have go : ∀ l, (l = 5 ∨ l = 6) → PB (c + 1) n ch Lh Rh L X0 (sI X (g + 9) l (nI c)) g Y0 (sI Y (m + 9) (9 + l) (nI c)) m := by
      intro l hl
      refine ⟨hM.twin hl (by omega), hn, fun j => ?_, fun j h1 h2 => ?_, fun j h1 h2 => ?_, fun j hj => ?_, fun j h1 h2 => ?_⟩
      · rw [sI_na (by omega)]; exact hk j
      · rw [sI_nk (by omega)]; exact hcr j h1 h2
      · rw [sI_nk (by omega)]; exact hs0 j h1 h2
      · rw [sI_na (by omega)]; exact hh j (by omega)
      · obtain ⟨a1, a2, a3⟩ := hnm j h1 h2
        rw [sI_na (show m ≠ m + 9 by omega), sI_na (show m + 5 ≠ m + 9 by omega), sI_na (show m + 6 ≠ m + 9 by omega)]
        refine ⟨?_, a2, a3⟩
        by_cases e : j = l
        · subst e; rw [sI_eq, sI_eq]
        · rw [sI_nk e, sI_nk (by omega)]; exact a1
    have hm9 : ldR τ 8 m 27 = fun (k : Nat → Option Mx) => k (m + 9) := by
      funext k
      obtain ⟨m0, m1, m2, m3, m4, m5, m6, m7, m8, m9, m10, m11, m12, m13, m14, m15, m16, m17, mq1, mq2, mq3, mq4, mq5, mq6, mq7, mq8, mq9, mq10, mq11, mq12, mq13, mq14, mq15, mq16, mq17, mn1, mn2, mn3, mn4, mn5, mn6, mn7, mn8, mn9, mn10, mn11, mn12, mn13, mn14, mn15, mn16, mn17⟩ := hm
      simp only [ldR, m0, m9]; rfl
    cases e5 : twB Lh L R X0 (Y.1 (m + 9)) c 5 with
    | true =>
      refine ⟨_, _, ?_, ?_, go 5 (Or.inl rfl)⟩
      · obtain ⟨g0, g1, g2, g3, g4, g5, g6, gT, k5, l5, k6, l6, k7, l7, k8, l8, k9, l9⟩ := hg
        simp (disch := first | assumption | omega) only [litM, grd_t, grd_T, ldI_t, stI_t, ldA_t, stA_t, lenA_t, n_lt_t, n_lt_f, n_le_t, n_le_f, n_eq_t, n_eq_f, if_true, if_false, nI_add, nI_mul, bt_d, bI_z, bI_o, Option.bind_some, Bool.true_eq_false, Bool.false_eq_true, m_lt, m_le, m_eq, m_eq2]
      · obtain ⟨m0, m1, m2, m3, m4, m5, m6, m7, m8, m9, m10, m11, m12, m13, m14, m15, m16, m17, mq1, mq2, mq3, mq4, mq5, mq6, mq7, mq8, mq9, mq10, mq11, mq12, mq13, mq14, mq15, mq16, mq17, mn1, mn2, mn3, mn4, mn5, mn6, mn7, mn8, mn9, mn10, mn11, mn12, mn13, mn14, mn15, mn16, mn17⟩ := hm
        simp (disch := first | assumption | omega) only [litM, grd_t, grd_T, ldI_t, stI_t, ldA_t, stA_t, lenA_t, n_lt_t, n_lt_f, n_le_t, n_le_f, n_eq_t, n_eq_f, if_true, if_false, nI_add, nI_mul, bt_d, bI_z, bI_o, Option.bind_some, Bool.true_eq_false, Bool.false_eq_true, ldR, eq_self, if_true, Option.bind_some, m0, m9, f_X10_mergesAdded_189]
    | false =>
      cases e6 : twB Lh L R X0 (Y.1 (m + 9)) c 6 with
      | true =>
        refine ⟨_, _, ?_, ?_, go 6 (Or.inr rfl)⟩
        · obtain ⟨g0, g1, g2, g3, g4, g5, g6, gT, k5, l5, k6, l6, k7, l7, k8, l8, k9, l9⟩ := hg
          simp (disch := first | assumption | omega) only [litM, grd_t, grd_T, ldI_t, stI_t, ldA_t, stA_t, lenA_t, n_lt_t, n_lt_f, n_le_t, n_le_f, n_eq_t, n_eq_f, if_true, if_false, nI_add, nI_mul, bt_d, bI_z, bI_o, Option.bind_some, Bool.true_eq_false, Bool.false_eq_true, m_lt, m_le, m_eq, m_eq2]
        · obtain ⟨m0, m1, m2, m3, m4, m5, m6, m7, m8, m9, m10, m11, m12, m13, m14, m15, m16, m17, mq1, mq2, mq3, mq4, mq5, mq6, mq7, mq8, mq9, mq10, mq11, mq12, mq13, mq14, mq15, mq16, mq17, mn1, mn2, mn3, mn4, mn5, mn6, mn7, mn8, mn9, mn10, mn11, mn12, mn13, mn14, mn15, mn16, mn17⟩ := hm
          simp (disch := first | assumption | omega) only [litM, grd_t, grd_T, ldI_t, stI_t, ldA_t, stA_t, lenA_t, n_lt_t, n_lt_f, n_le_t, n_le_f, n_eq_t, n_eq_f, if_true, if_false, nI_add, nI_mul, bt_d, bI_z, bI_o, Option.bind_some, Bool.true_eq_false, Bool.false_eq_true, ldR, eq_self, if_true, Option.bind_some, m0, m9, f_X10_mergesAdded_189]
      | false =>
        have hM2 := hM.src1 (v := nI c) (j := 9 + c) (fun i hi hbi => by
          have : i ≠ c := fun e => by rw [e, hh c (by omega)] at hbi; cases hbi
          omega)
        have hk2 : ∀ j, bt ((sI Y (m + 9) (9 + c) (nI c)).1 m 21) j = false := fun j => by rw [sI_na (by omega)]; exact hk j
        have hput := hM2.put (nm := X0.1 (R + 1) c) (ty := X0.1 (R + 2) c) hk2 (show c < 9 by omega) rq ⟨fun q => by omega, fun _ q => by omega, fun _ => ⟨er, by rw [sI_nk (by omega)]; exact hs0 c hc7 hc, sI_eq, hcr c hc7 hc⟩⟩
        refine ⟨_, _, ?_, ?_, hput, hn, fun j => ?_, fun j h1 h2 => ?_, fun j h1 h2 => ?_, fun j hj => ?_, fun j h1 h2 => ?_⟩
        · simp only [Bool.false_eq_true, if_false, if_true]
        · have e2 : f_X10_nameAt τ (sI Y (m + 9) (9 + c) (nI c)) m (nI b) (nI 1) (nI c) = some (X0.1 (R + 1) c) := by rw [s10_nameAt hm hb (by omega) (by omega), sI_na (by omega), ← rn]
          have e3 : f_X10_typeAt τ (sI Y (m + 9) (9 + c) (nI c)) m (nI b) (nI 1) (nI c) = some (X0.1 (R + 2) c) := by rw [s10_typeAt hm hb (by omega) (by omega), sI_na (by omega), ← rt]
          obtain ⟨m0, m1, m2, m3, m4, m5, m6, m7, m8, m9, m10, m11, m12, m13, m14, m15, m16, m17, mq1, mq2, mq3, mq4, mq5, mq6, mq7, mq8, mq9, mq10, mq11, mq12, mq13, mq14, mq15, mq16, mq17, mn1, mn2, mn3, mn4, mn5, mn6, mn7, mn8, mn9, mn10, mn11, mn12, mn13, mn14, mn15, mn16, mn17⟩ := hm
          simp (disch := first | assumption | omega) only [litM, grd_t, grd_T, ldI_t, stI_t, ldA_t, stA_t, lenA_t, n_lt_t, n_lt_f, n_le_t, n_le_f, n_eq_t, n_eq_f, if_true, if_false, nI_add, nI_mul, bt_d, bI_z, bI_o, Option.bind_some, Bool.true_eq_false, Bool.false_eq_true, ldR, eq_self, if_true, Option.bind_some, m0, m9, e2, e3, s10_takes hm', f_X10_mergesAdded_189]
        · simp (disch := first | assumption | omega) only [sI_na, sI_nk]; exact hk j
        · simp (disch := first | assumption | omega) only [sI_na]; exact hcr j h1 h2
        · simp (disch := first | assumption | omega) only [sI_na]; rw [sI_nk (by omega)]; exact hs0 j h1 h2
        · simp (disch := first | assumption | omega) only [sI_na, sI_eq]
          rw [bt_set (by omega), hh j (by omega)]; simp; omega
        · obtain ⟨a1, a2, a3⟩ := hnm j h1 h2
          have hjc : j ≠ c := by omega
          simp (disch := first | assumption | omega) only [sI_na, sI_eq, sI_nk]
          rw [bt_set (by omega)]
          simp [hjc]; exact ⟨a1, a2, a3⟩
theorem add_rel {σ τ : Sh} {n g m s L R b : Nat} {ch : Nat → Int32} {Lh Rh : Int32} {X0 X Y0 Y : Mx} (hg : mgOK σ g) (hs : stOK σ s L R) (hm : mdOK τ m) (hb : b ≤ 931) (hd : s + 16 < g ∨ g + 9 < s) (hS0 : StR X0.1 s L R (Y0.1 (m + 3)) b) (hLh : Lh = X0.1 L 0) (hRh : Rh = X0.1 R 0) (h : PH 5 n ch Lh Rh X0 X g Y0 Y m) :
    ∃ X1 Y1, f_X2_mergeAddedColumns σ X g s = some X1 ∧ f_X10_mergesAdded τ Y m (nI b) = some Y1 ∧ MI 0 (fun j => j < 27) n ch Lh Rh X0 X1 g Y0 Y1 m ∧ n ≤ 10 ∧ (∀ j, bt (Y1.1 m 21) j = false) := by
  obtain ⟨hM, hn, hk, hcr, hso, hh⟩ := h
  have hA : PA 5 n ch Lh Rh L X0 X g Y0 Y m := ⟨hM, by omega, hk, fun j hj => by rw [if_neg (by omega)]; exact hcr j hj, fun j h1 h2 => (hso j h1 h2).2, fun j h1 h2 => (hso j h1 h2).1, hh, fun j h1 h2 => by omega⟩
  obtain ⟨N1, M1, X1, Y1, e1, e2, i1⟩ := up_loop2 (fun n s' k => f_X2_mergeAddedColumns_2 σ g s n s' (nI k)) (fun n t k => f_X10_mergesAdded_2 τ m (nI b) n t (nI k)) 7 (fun k x y => 5 ≤ k ∧ PA k n ch Lh Rh L X0 x g Y0 y m) (by
    intro N1 M1 k x y hk ⟨h5, i⟩
    obtain ⟨x1, y1, e1, e2, i1⟩ := addL_rel (N := N1) (M := M1) hg hs hm hb hd hS0 hLh h5 hk i
    exact ⟨x1, y1, e1, e2, by omega, i1⟩) FU FU 5 X Y (by omega) ⟨by omega, hA⟩ (by decide) (by decide)
  obtain ⟨-, jM, jn, jk, jcr, js9, js0, jh, jnm⟩ := i1
  have hB : PB 7 n ch Lh Rh L X0 X1 g Y0 Y1 m := ⟨jM, jn, jk, fun j h1 h2 => by rw [jcr j h2, if_neg (by omega)], js0, jh, fun j h1 h2 => ⟨by rw [jcr j (by omega), if_pos (by omega), js9 j h1 (by omega)], jnm j h1 h2⟩⟩
  obtain ⟨N2, M2, X2, Y2, e3, e4, i2⟩ := up_loop2 (fun n s' k => f_X2_mergeAddedColumns_61 σ g s n s' (nI k)) (fun n t k => f_X10_mergesAdded_56 τ m (nI b) n t (nI k)) 9 (fun k x y => 7 ≤ k ∧ PB k n ch Lh Rh L X0 x g Y0 y m) (by
    intro N1 M1 k x y hk ⟨h5, i⟩
    obtain ⟨x1, y1, e1, e2, i1⟩ := addR_rel (N := N1) (M := M1) hg hs hm hb hd hS0 hLh hRh h5 hk i
    exact ⟨x1, y1, e1, e2, by omega, i1⟩) FU FU 7 X1 Y1 (by omega) ⟨by omega, hB⟩ (by decide) (by decide)
  have e1 : f_X2_mergeAddedColumns_2 σ g s FU X 5 = f_X2_mergeAddedColumns_2 σ g s (N1 + 1) X1 (nI 7) := e1
  have e2 : f_X10_mergesAdded_2 τ m (nI b) FU Y 5 = f_X10_mergesAdded_2 τ m (nI b) (M1 + 1) Y1 (nI 7) := e2
  have e3 : f_X2_mergeAddedColumns_61 σ g s FU X1 7 = f_X2_mergeAddedColumns_61 σ g s (N2 + 1) X2 (nI 9) := e3
  have e4 : f_X10_mergesAdded_56 τ m (nI b) FU Y1 7 = f_X10_mergesAdded_56 τ m (nI b) (M2 + 1) Y2 (nI 9) := e4
  obtain ⟨-, kM, kn, kk, -⟩ := i2
  refine ⟨X2, Y2, ?_, ?_, kM.mono (fun j _ q => q.1), kn, kk⟩
  · unfold f_X2_mergeAddedColumns
    rw [grd_t hg.1, e1, f_X2_mergeAddedColumns_2, if_pos (by decide), e3, f_X2_mergeAddedColumns_61, if_pos (by decide)]
  · unfold f_X10_mergesAdded
    rw [grd_t hm.1, e2, f_X10_mergesAdded_2, if_pos (by decide), e4, f_X10_mergesAdded_56, if_pos (by decide)]
