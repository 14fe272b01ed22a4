/-! ===== all cells; demands ===== -/
theorem MI.skipRow {n g m k : Nat} {P : Nat → Prop} {ch : Nat → Int32} {Lh Rh : Int32} {X0 X Y0 Y : Mx} (h : MI (9 * k) P n ch Lh Rh X0 X g Y0 Y m) (hb : bt (Y.1 m 21) k = false) : MI (9 * (k + 1)) P n ch Lh Rh X0 X g Y0 Y m := by
  obtain ⟨f1, f2, ⟨t1, t2, t3, t4, t5, t6, t7⟩, cf, u, sr⟩ := h
  refine ⟨f1, f2, ⟨t1, t2, t3, t4, t5, fun i d hi hd hB hb1 hb2 => ?_, fun i d hi hd h0 => ?_⟩, cf, u, sr⟩
  · have e : i ≠ k := fun e => by rw [e, hb] at hb1; cases hb1
    exact t6 i d hi hd (by omega) hb1 hb2
  · exact t7 i d hi hd (h0.imp_right (fun q => q.imp_right (fun q => by omega)))
theorem cells_row {σ τ : Sh} {n g m s L R b k : Nat} {ch : Nat → Int32} {Lh Rh : Int32} {X0 X Y0 Y : Mx} {K : Mx → Int32 → Option Mx} (hg : mgOK σ g) (hs : stOK σ s L R) (hm : mdOK τ m) (hb : b ≤ 931) (hd : s + 16 < g ∨ g + 9 < s) (hS0 : StR X0.1 s L R (Y0.1 (m + 3)) b) (hch : ch = X0.1 (s + 16)) (hLh : Lh = X0.1 L 0) (hRh : Rh = X0.1 R 0) (hk : k < 20) (hbk : bt (Y.1 m 21) k = true) (h : MI (9 * k) (fun j => j < 56 + 9 * k) n ch Lh Rh X0 X g Y0 Y m) (hn : n ≤ 39 + 9 * k) :
    ∃ X1 Y1 n1, f_X2_mergeCells σ X g s (nI k) = some X1 ∧ f_X10_merges_136 K τ m (nI b) (nI k) FU Y (nI 0) = K Y1 (nI (k + 1)) ∧ n1 ≤ 39 + 9 * (k + 1) ∧ MI (9 * (k + 1)) (fun j => j < 56 + 9 * (k + 1)) n1 ch Lh Rh X0 X1 g Y0 Y1 m := by
  obtain ⟨N1, M1, X1, Y1, e1, e2, n1, i1, i2, i3, i4⟩ := up_loop2 (fun n s' c => f_X2_mergeCells_2 σ g s (nI k) n s' (nI c)) (fun n t c => f_X10_merges_136 K τ m (nI b) (nI k) n t (nI c)) 9 (fun c x y => ∃ n1, n1 ≤ 39 + (9 * k + c) ∧ MI (9 * k + c) (fun j => j < 56 + (9 * k + c)) n1 ch Lh Rh X0 x g Y0 y m ∧ y.1 m 20 = Y.1 m 20 ∧ y.1 m 21 = Y.1 m 21) (by
    intro N1 M1 c x y hc ⟨n1, i1, i2, i3, i4⟩
    have hx0 : x.1 (g + 1) 0 = y.1 m 20 := i2.2.2.1.1
    have hg' := hg
    cases ec : bt (y.1 m 20) c with
    | false =>
      refine ⟨x, y, ?_, ?_, n1, by omega, (i2.mono (fun j _ q => by omega)).skip hc (Or.inr ec), i3, i4⟩
      · show f_X2_mergeCells_2 σ g s (nI k) (N1 + 1) x (nI c) = f_X2_mergeCells_2 σ g s (nI k) N1 x (nI (c + 1))
        rw [f_X2_mergeCells_2]
        simp (disch := first | assumption | omega) only [litM, grd_t, grd_T, ldI_t, stI_t, ldA_t, stA_t, lenA_t, n_lt_t, n_lt_f, n_le_t, n_le_f, n_eq_t, n_eq_f, if_true, if_false, nI_add, nI_mul, bt_d, bI_z, bI_o, Option.bind_some, Bool.true_eq_false, Bool.false_eq_true, ldR_g hg', s_hasColumn hg.2.2.2.2.2.2.2.1, inB_n, hx0, ec, f_X2_mergeCells_26]
      · show f_X10_merges_136 K τ m (nI b) (nI k) (M1 + 1) y (nI c) = f_X10_merges_136 K τ m (nI b) (nI k) M1 y (nI (c + 1))
        rw [f_X10_merges_136]
        have m0 := hm.1
        simp (disch := first | assumption | omega) only [litM, grd_t, grd_T, ldI_t, stI_t, ldA_t, stA_t, lenA_t, n_lt_t, n_lt_f, n_le_t, n_le_f, n_eq_t, n_eq_f, if_true, if_false, nI_add, nI_mul, bt_d, bI_z, bI_o, Option.bind_some, Bool.true_eq_false, Bool.false_eq_true, i4, hbk, ec, f_X10_merges_173]
    | true =>
      obtain ⟨x1, y1, n2, q1, q2, q3, q4, q5, q6⟩ := cell_rel hg hs hm hb hd hS0 hch hLh hRh hk hc (by rw [i4]; exact hbk) ec i2 i1
      refine ⟨x1, y1, ?_, ?_, n2, by omega, q4, q5.trans i3, q6.trans i4⟩
      · show f_X2_mergeCells_2 σ g s (nI k) (N1 + 1) x (nI c) = f_X2_mergeCells_2 σ g s (nI k) N1 x1 (nI (c + 1))
        rw [f_X2_mergeCells_2]
        simp (disch := first | assumption | omega) only [litM, grd_t, grd_T, ldI_t, stI_t, ldA_t, stA_t, lenA_t, n_lt_t, n_lt_f, n_le_t, n_le_f, n_eq_t, n_eq_f, if_true, if_false, nI_add, nI_mul, bt_d, bI_z, bI_o, Option.bind_some, Bool.true_eq_false, Bool.false_eq_true, ldR_g hg', s_hasColumn hg.2.2.2.2.2.2.2.1, inB_n, hx0, ec, q1, f_X2_mergeCells_26]
      · show f_X10_merges_136 K τ m (nI b) (nI k) (M1 + 1) y (nI c) = f_X10_merges_136 K τ m (nI b) (nI k) M1 y1 (nI (c + 1))
        rw [f_X10_merges_136]
        have m0 := hm.1
        simp (disch := first | assumption | omega) only [litM, grd_t, grd_T, ldI_t, stI_t, ldA_t, stA_t, lenA_t, n_lt_t, n_lt_f, n_le_t, n_le_f, n_eq_t, n_eq_f, if_true, if_false, nI_add, nI_mul, bt_d, bI_z, bI_o, Option.bind_some, Bool.true_eq_false, Bool.false_eq_true, i4, hbk, ec, q2, f_X10_merges_173]) FU FU 0 X Y (by omega) ⟨n, by omega, h, rfl, rfl⟩ (by decide) (by decide)
  have e1 : f_X2_mergeCells_2 σ g s (nI k) FU X 0 = f_X2_mergeCells_2 σ g s (nI k) (N1 + 1) X1 (nI 9) := e1
  have e2 : f_X10_merges_136 K τ m (nI b) (nI k) FU Y (nI 0) = f_X10_merges_136 K τ m (nI b) (nI k) (M1 + 1) Y1 (nI 9) := e2
  refine ⟨X1, Y1, n1, ?_, ?_, by omega, ?_⟩
  · unfold f_X2_mergeCells
    rw [grd_t hg.1, e1, f_X2_mergeCells_2, if_pos (by decide)]
  · rw [e2, f_X10_merges_136, if_pos (by decide), litM, nI_add]
  · have := i2.mono (Q := fun j => j < 56 + 9 * (k + 1)) (fun j _ q => by omega)
    rw [show 9 * (k + 1) = 9 * k + 9 by omega] at this ⊢
    exact this
theorem no_row {τ : Sh} {m b k : Nat} {Y : Mx} {K : Mx → Int32 → Option Mx} (hm : mdOK τ m) (hk : k < 20) (hbk : bt (Y.1 m 21) k = false) : f_X10_merges_136 K τ m (nI b) (nI k) FU Y (nI 0) = K Y (nI (k + 1)) := by
  obtain ⟨M1, Y1, e2, i⟩ := up_loop (fun n t c => f_X10_merges_136 K τ m (nI b) (nI k) n t (nI c)) 9 (fun c y => y = Y) (by
    intro M1 c y hc i
    refine ⟨y, ?_, i⟩
    show f_X10_merges_136 K τ m (nI b) (nI k) (M1 + 1) y (nI c) = f_X10_merges_136 K τ m (nI b) (nI k) M1 y (nI (c + 1))
    rw [f_X10_merges_136, i]
    have m0 := hm.1
    simp (disch := first | assumption | omega) only [litM, grd_t, grd_T, ldI_t, stI_t, ldA_t, stA_t, lenA_t, n_lt_t, n_lt_f, n_le_t, n_le_f, n_eq_t, n_eq_f, if_true, if_false, nI_add, nI_mul, bt_d, bI_z, bI_o, Option.bind_some, Bool.true_eq_false, Bool.false_eq_true, hbk, f_X10_merges_173]) FU 0 Y (by omega) rfl (by decide)
  have e2 : f_X10_merges_136 K τ m (nI b) (nI k) FU Y (nI 0) = f_X10_merges_136 K τ m (nI b) (nI k) (M1 + 1) Y1 (nI 9) := e2
  rw [e2, i, f_X10_merges_136, if_pos (by decide), litM, nI_add]
theorem cells_loop {σ τ : Sh} {n g m s L R b : Nat} {ch : Nat → Int32} {Lh Rh : Int32} {X0 X Y0 Y : Mx} (hg : mgOK σ g) (hs : stOK σ s L R) (hm : mdOK τ m) (hb : b ≤ 931) (hd : s + 16 < g ∨ g + 9 < s) (hS0 : StR X0.1 s L R (Y0.1 (m + 3)) b) (hch : ch = X0.1 (s + 16)) (hLh : Lh = X0.1 L 0) (hRh : Rh = X0.1 R 0) (h : MI 0 (fun j => j < 56) n ch Lh Rh X0 X g Y0 Y m) (hn : n ≤ 39) :
    ∃ X1 Y1 n1, f_X2_run_100 σ g s FU X (nI 0) = f_X2_run_131 σ g s FU X1 (nI 0) ∧ f_X10_merges_128 τ m (nI b) FU Y (nI 0) = f_X10_merges_187 τ m (nI b) FU Y1 (nI 0) ∧ n1 ≤ 219 ∧ MI 180 (fun j => j < 236) n1 ch Lh Rh X0 X1 g Y0 Y1 m := by
  obtain ⟨N1, M1, X1, Y1, e1, e2, n1, i1, i2⟩ := up_loop2 (fun n s' k => f_X2_run_100 σ g s n s' (nI k)) (fun n t k => f_X10_merges_128 τ m (nI b) n t (nI k)) 20 (fun k x y => ∃ n1, n1 ≤ 39 + 9 * k ∧ MI (9 * k) (fun j => j < 56 + 9 * k) n1 ch Lh Rh X0 x g Y0 y m) (by
    intro N1 M1 k x y hk ⟨n1, i1, i2⟩
    have hx1 : x.1 (g + 1) 1 = y.1 m 21 := i2.2.2.1.2.1
    have hg' := hg
    have em : f_X10_merges_128 τ m (nI b) (M1 + 1) y (nI k) = f_X10_merges_136 (f_X10_merges_128 τ m (nI b) M1) τ m (nI b) (nI k) FU y (nI 0) := by
      rw [f_X10_merges_128]
      simp (disch := first | assumption | omega) only [litM, grd_t, grd_T, ldI_t, stI_t, ldA_t, stA_t, lenA_t, n_lt_t, n_lt_f, n_le_t, n_le_f, n_eq_t, n_eq_f, if_true, if_false, nI_add, nI_mul, bt_d, bI_z, bI_o, Option.bind_some, Bool.true_eq_false, Bool.false_eq_true]
    cases ek : bt (y.1 m 21) k with
    | false =>
      refine ⟨x, y, ?_, ?_, n1, by omega, (i2.mono (fun j _ q => by omega)).skipRow ek⟩
      · show f_X2_run_100 σ g s (N1 + 1) x (nI k) = f_X2_run_100 σ g s N1 x (nI (k + 1))
        rw [f_X2_run_100]
        simp (disch := first | assumption | omega) only [litM, grd_t, grd_T, ldI_t, stI_t, ldA_t, stA_t, lenA_t, n_lt_t, n_lt_f, n_le_t, n_le_f, n_eq_t, n_eq_f, if_true, if_false, nI_add, nI_mul, bt_d, bI_z, bI_o, Option.bind_some, Bool.true_eq_false, Bool.false_eq_true, ldR_g hg', s_hasRow hg.2.2.2.2.2.2.2.1, inB_n, hx1, ek, f_X2_run_123]
      · exact em.trans (no_row hm hk ek)
    | true =>
      obtain ⟨x1, y1, n2, q1, q2, q3, q4⟩ := cells_row (K := f_X10_merges_128 τ m (nI b) M1) hg hs hm hb hd hS0 hch hLh hRh hk ek i2 i1
      refine ⟨x1, y1, ?_, em.trans q2, n2, q3, q4⟩
      show f_X2_run_100 σ g s (N1 + 1) x (nI k) = f_X2_run_100 σ g s N1 x1 (nI (k + 1))
      rw [f_X2_run_100]
      simp (disch := first | assumption | omega) only [litM, grd_t, grd_T, ldI_t, stI_t, ldA_t, stA_t, lenA_t, n_lt_t, n_lt_f, n_le_t, n_le_f, n_eq_t, n_eq_f, if_true, if_false, nI_add, nI_mul, bt_d, bI_z, bI_o, Option.bind_some, Bool.true_eq_false, Bool.false_eq_true, ldR_g hg', s_hasRow hg.2.2.2.2.2.2.2.1, inB_n, hx1, ek, q1, f_X2_run_123]) FU FU 0 X Y (by omega) ⟨n, by omega, h⟩ (by decide) (by decide)
  refine ⟨X1, Y1, n1, ?_, ?_, by omega, i2⟩
  · refine Eq.trans e1 ?_
    show f_X2_run_100 σ g s (N1 + 1) X1 (nI 20) = _
    rw [f_X2_run_100, if_pos (by decide)]; rfl
  · refine Eq.trans e2 ?_
    show f_X10_merges_128 τ m (nI b) (M1 + 1) Y1 (nI 20) = _
    rw [f_X10_merges_128, if_pos (by decide)]; rfl
theorem MI.setC {n g m k c : Nat} {v w : Int32} {P : Nat → Prop} {ch : Nat → Int32} {Lh Rh : Int32} {X0 X Y0 Y : Mx} (h : MI 180 P n ch Lh Rh X0 X g Y0 Y m) (hk : k < 20) (hc : c < 9) (hbk : bt (Y.1 m 21) k = true) (hbc : bt (Y.1 m 20) c = true) : MI 180 P n ch Lh Rh X0 (sI (sI X (g + 4) (9 * k + c) v) (g + 5) (9 * k + c) w) g Y0 (sI (sI Y (m + 7) (9 * k + c) v) (m + 8) (9 * k + c) w) m := by
  obtain ⟨f1, f2, ⟨t1, t2, t3, t4, t5, t6, t7⟩, cf, u, sr⟩ := h
  refine ⟨⟨f1.1, fun q hq => ?_⟩, ⟨f2.1, fun q h1 h2 => ?_, fun i h1 h2 h3 => ?_⟩, ?_, ?_, ?_, ?_⟩
  · rw [sI_ne (by omega), sI_ne (by omega)]; exact f1.2 q hq
  · rw [sI_ne (by omega), sI_ne (by omega)]; exact f2.2.1 q h1 h2
  · rw [sI_na (by omega), sI_na (by omega)]; exact f2.2.2 i h1 h2 h3
  · simp (disch := first | assumption | omega) only [sI_na, sI_ne]
    refine ⟨t1, t2, t3, t4, t5, fun i d hi hd hB hb1 hb2 => ?_, fun i d hi hd h0 => ?_⟩
    · by_cases e : 9 * i + d = 9 * k + c
      · rw [e]; simp (disch := first | assumption | omega) only [sI_na, sI_eq]; exact ⟨trivial, trivial⟩
      · simp (disch := first | assumption | omega) only [sI_na, sI_nk]; exact t6 i d hi hd hB hb1 hb2
    · have e : 9 * i + d ≠ 9 * k + c := fun e => by
        have e1 : i = k := by omega
        have e2 : d = c := by omega
        subst e1; subst e2
        rcases h0 with q | q | q
        · rw [hbk] at q; cases q
        · rw [hbc] at q; cases q
        · omega
      rw [sI_nk e]
      exact t7 i d hi hd h0
  · simp (disch := first | assumption | omega) only [sI_na, sI_ne]; exact cf
  · simp (disch := first | assumption | omega) only [sI_na, sI_ne]; exact u
  · simp (disch := first | assumption | omega) only [sI_na, sI_ne]; exact sr
theorem MI.takeR {n g m k : Nat} {P : Nat → Prop} {ch : Nat → Int32} {Lh Rh : Int32} {X0 X Y0 Y : Mx} (h : MI 180 P n ch Lh Rh X0 X g Y0 Y m) (hk : k < 20) : MI 180 P n ch Lh Rh X0 (sI (wF X (g + 4) (fun j => if 9 * k ≤ j ∧ j < 9 * k + 9 then nI 9999 else X.1 (g + 4) j)) (g + 1) 1 (X.1 (g + 1) 1 &&& (((1 : Int32) <<< (nI k &&& 31)) ^^^ (-1)))) g Y0 (sI Y m 21 (Y.1 m 21 &&& (((1 : Int32) <<< (nI k &&& 31)) ^^^ (-1)))) m := by
  obtain ⟨f1, f2, ⟨t1, t2, t3, t4, t5, t6, t7⟩, cf, u, sr⟩ := h
  refine ⟨⟨f1.1, fun q hq => ?_⟩, ⟨f2.1, fun q h1 h2 => ?_, fun j h1 h2 h3 => ?_⟩, ?_, ?_, ?_, ?_⟩
  · rw [sI_ne (by omega), wF_fn (by omega)]; exact f1.2 q hq
  · rw [sI_ne (by omega)]; exact f2.2.1 q h1 h2
  · rw [sI_nk (by omega)]; exact f2.2.2 j h1 h2 h3
  · simp (disch := first | assumption | omega) only [sI_na, sI_ne, sI_eq, sI_nk, wF_fn, wF_af]
    refine ⟨by rw [sI_nk (by omega), wF_na (by omega)]; exact t1, by rw [sI_eq, t2], t3, low_clr t4 (by omega), t5, fun j d hj hd hB hb1 hb2 => ?_, fun j d hj hd h0 => ?_⟩
    · rw [bt_clr (by omega)] at hb1
      have q1 := (Bool.and_eq_true _ _ |>.mp hb1).1
      have q2 : j ≠ k := by simpa using (Bool.and_eq_true _ _ |>.mp hb1).2
      show (if 9 * k ≤ 9 * j + d ∧ 9 * j + d < 9 * k + 9 then nI 9999 else X.1 (g + 4) (9 * j + d)) = _ ∧ _
      rw [if_neg (by omega)]
      exact t6 j d hj hd hB q1 hb2
    · show (if 9 * k ≤ 9 * j + d ∧ 9 * j + d < 9 * k + 9 then nI 9999 else X.1 (g + 4) (9 * j + d)) = nI 9999
      split
      · rfl
      · rename_i hne
        rw [bt_clr (by omega)] at h0
        refine t7 j d hj hd ?_
        rcases h0 with q | q | q
        · rw [Bool.and_eq_false_iff] at q
          rcases q with q | q
          · exact Or.inl q
          · exfalso
            have : j = k := by simpa using q
            omega
        · exact Or.inr (Or.inl q)
        · exact Or.inr (Or.inr q)
  · simp (disch := first | assumption | omega) only [sI_na, sI_ne, sI_nk, wF_fn, wF_na]; exact cf
  · simp (disch := first | assumption | omega) only [sI_na, sI_ne, sI_nk, wF_fn, wF_na]; exact u
  · simp (disch := first | assumption | omega) only [sI_na, sI_ne, sI_nk, wF_fn]; exact sr
theorem s_isAtLesserKey {σ : Sh} {X : Mx} {g c k : Nat} {x : Int32} (hg : mgOK σ g) (hc : c < 9) (hk : k < 20) : f_X2_isAtLesserKey σ X g x (nI c) (nI k) = some (bI (anyB (fun o => decide (X.1 (g + 4) (9 * o + c) = x)) k)) := by
  unfold f_X2_isAtLesserKey
  rw [grd_t hg.1]
  have := any_loop (F := fun n o => f_X2_isAtLesserKey_3 σ X g x (nI c) (nI k) n (nI o)) (N := k) (p := fun o => decide (X.1 (g + 4) (9 * o + c) = x)) (e := false) (by
    intro n o ho
    rw [f_X2_isAtLesserKey_3]
    simp (disch := first | assumption | omega) only [litM, grd_t, grd_T, ldI_t, stI_t, ldA_t, stA_t, lenA_t, n_lt_t, n_lt_f, n_le_t, n_le_f, n_eq_t, n_eq_f, if_true, if_false, nI_add, nI_mul, bt_d, bI_z, bI_o, Option.bind_some, Bool.true_eq_false, Bool.false_eq_true, ldR_g hg, s_numberAt hg.2.2.2.2.2.2.2.1]
    by_cases e : X.1 (g + 1 + 3) (9 * o + c) = x
    · simp [e]
    · simp [e]) (by
    intro n
    rw [f_X2_isAtLesserKey_3]
    simp (disch := first | assumption | omega) only [litM, grd_t, grd_T, ldI_t, stI_t, ldA_t, stA_t, lenA_t, n_lt_t, n_lt_f, n_le_t, n_le_f, n_eq_t, n_eq_f, if_true, if_false, nI_add, nI_mul, bt_d, bI_z, bI_o, Option.bind_some, Bool.true_eq_false, Bool.false_eq_true, bI_f]) FU 0 (by omega) (by have : FU = 40000 := rfl; omega) rfl
  rw [Bool.or_false] at this
  exact this
theorem s10_mergedAt {τ : Sh} {Y : Mx} {m k c : Nat} (hm : mdOK τ m) (hk : k < 20) (hc : c < 9) : f_X10_mergedAt τ Y m (nI k) (nI c) = some (Y.1 (m + 7) (9 * k + c)) := by
  obtain ⟨m0, m1, m2, m3, m4, m5, m6, m7, m8, m9, m10, m11, m12, m13, m14, m15, m16, m17, mq1, mq2, mq3, mq4, mq5, mq6, mq7, mq8, mq9, mq10, mq11, mq12, mq13, mq14, mq15, mq16, mq17, mn1, mn2, mn3, mn4, mn5, mn6, mn7, mn8, mn9, mn10, mn11, mn12, mn13, mn14, mn15, mn16, mn17⟩ := hm
  simp (disch := first | assumption | omega) only [f_X10_mergedAt, litM, grd_t, grd_T, ldI_t, stI_t, ldA_t, stA_t, lenA_t, n_lt_t, n_lt_f, n_le_t, n_le_f, n_eq_t, n_eq_f, if_true, if_false, nI_add, nI_mul, bt_d, bI_z, bI_o, Option.bind_some, Bool.true_eq_false, Bool.false_eq_true, ldR, eq_self, if_true, Option.bind_some, m0, m7]
theorem s10_isLike {τ : Sh} {Y : Mx} {m c k : Nat} (hm : mdOK τ m) (hc : c < 9) (hk : k < 20) : f_X10_isLike τ Y m (nI k) (nI c) = some (bI (anyB (fun o => bt (Y.1 m 21) o && decide (Y.1 (m + 7) (9 * o + c) = Y.1 (m + 7) (9 * k + c))) k)) := by
  unfold f_X10_isLike
  have m0 := hm.1
  rw [grd_t m0]
  have := any_loop (F := fun n o => f_X10_isLike_2 τ Y m (nI k) (nI c) n (nI o)) (N := k) (p := fun o => bt (Y.1 m 21) o && decide (Y.1 (m + 7) (9 * o + c) = Y.1 (m + 7) (9 * k + c))) (e := false) (by
    intro n o ho
    rw [f_X10_isLike_2]
    simp (disch := first | assumption | omega) only [litM, grd_t, grd_T, ldI_t, stI_t, ldA_t, stA_t, lenA_t, n_lt_t, n_lt_f, n_le_t, n_le_f, n_eq_t, n_eq_f, if_true, if_false, nI_add, nI_mul, bt_d, bI_z, bI_o, Option.bind_some, Bool.true_eq_false, Bool.false_eq_true, s10_mergedAt hm, f_X10_isLike_36]
    cases bt (Y.1 m 21) o
    · simp
    · by_cases e : Y.1 (m + 7) (9 * o + c) = Y.1 (m + 7) (9 * k + c) <;> simp [e]) (by
    intro n
    rw [f_X10_isLike_2]
    simp (disch := first | assumption | omega) only [litM, grd_t, grd_T, ldI_t, stI_t, ldA_t, stA_t, lenA_t, n_lt_t, n_lt_f, n_le_t, n_le_f, n_eq_t, n_eq_f, if_true, if_false, nI_add, nI_mul, bt_d, bI_z, bI_o, Option.bind_some, Bool.true_eq_false, Bool.false_eq_true, bI_f]) FU 0 (by omega) (by have : FU = 40000 := rfl; omega) rfl
  rw [Bool.or_false] at this
  exact this
/-- whether a row isn't as a demand would have it -/
theorem broken_rel {σ τ : Sh} {n g m b d k kd f q : Nat} {P : Nat → Prop} {ch : Nat → Int32} {Lh Rh : Int32} {X0 X Y0 Y : Mx} (hg : mgOK σ g) (hm : mdOK τ m) (hb : b ≤ 931) (hd : d < 4) (hk : k < 20) (hkd : kd < 3) (hf : f < 9) (hq : q < 9) (w1 : Y.1 (m + 3) (b + 601 + d) = nI kd) (w2 : Y.1 (m + 3) (b + 605 + d) = nI f) (w3 : kd = 2 → Y.1 (m + 3) (b + 609 + d) = nI q) (hbk : bt (Y.1 m 21) k = true) (hbf : bt (Y.1 m 20) f = true) (hbq : bt (Y.1 m 20) q = true) (h : MI 180 P n ch Lh Rh X0 X g Y0 Y m) :
    ∃ v : Bool, f_X2_isBroken σ X g (nI kd) (nI f) (nI q) (nI k) = some (bI v) ∧ f_X10_isAgainst τ Y m (nI b) (nI d) (nI k) = some (bI v) := by
  obtain ⟨t1, t2, t3, t4, t5, t6, t7⟩ := h.2.2.1
  have hg' := hg
  have hm' := hm
  have ef : X.1 (g + 4) (9 * k + f) = Y.1 (m + 7) (9 * k + f) := (t6 k f hk hf (by omega) hbk hbf).1
  have eq : X.1 (g + 4) (9 * k + q) = Y.1 (m + 7) (9 * k + q) := (t6 k q hk hq (by omega) hbk hbq).1
  have nf := s_numberAt (X := X) hg.2.2.2.2.2.2.2.1 hk hf
  have nq := s_numberAt (X := X) hg.2.2.2.2.2.2.2.1 hk hq
  have nf : f_X6_numberAt σ X (g + 1) (nI k) (nI f) = some (Y.1 (m + 7) (9 * k + f)) := nf.trans (congrArg some ef)
  have nq : f_X6_numberAt σ X (g + 1) (nI k) (nI q) = some (Y.1 (m + 7) (9 * k + q)) := nq.trans (congrArg some eq)
  unfold f_X2_isBroken f_X10_isAgainst
  rw [grd_t hg.1, grd_t hm.1]
  obtain ⟨m0, m1, m2, m3, m4, m5, m6, m7, m8, m9, m10, m11, m12, m13, m14, m15, m16, m17, mq1, mq2, mq3, mq4, mq5, mq6, mq7, mq8, mq9, mq10, mq11, mq12, mq13, mq14, mq15, mq16, mq17, mn1, mn2, mn3, mn4, mn5, mn6, mn7, mn8, mn9, mn10, mn11, mn12, mn13, mn14, mn15, mn16, mn17⟩ := hm
  obtain ⟨g0, g1, g2, g3, g4, g5, g6, gT, k5, l5, k6, l6, k7, l7, k8, l8, k9, l9⟩ := hg
  rcases (show kd = 0 ∨ kd = 1 ∨ kd = 2 by omega) with rfl | rfl | rfl
  · simp (disch := first | assumption | omega) only [litM, grd_t, grd_T, ldI_t, stI_t, ldA_t, stA_t, lenA_t, n_lt_t, n_lt_f, n_le_t, n_le_f, n_eq_t, n_eq_f, if_true, if_false, nI_add, nI_mul, bt_d, bI_z, bI_o, Option.bind_some, Bool.true_eq_false, Bool.false_eq_true, ldR, eq_self, if_true, Option.bind_some, m0, m3, g0, g1, nf, w1, w2, s10_mergedAt hm', s_isAtLesserKey hg', s10_isLike hm']
    by_cases e : Y.1 (m + 7) (9 * k + f) = nI 9999
    · exact ⟨false, by simp only [e, if_true]; rfl, by simp only [e, if_true]; rfl⟩
    · have ea : anyB (fun o => decide (X.1 (g + 4) (9 * o + f) = Y.1 (m + 7) (9 * k + f))) k = anyB (fun o => bt (Y.1 m 21) o && decide (Y.1 (m + 7) (9 * o + f) = Y.1 (m + 7) (9 * k + f))) k := anyB_congr (fun o ho => by
        cases eo : bt (Y.1 m 21) o with
        | false =>
          rw [t7 o f (by omega) hf (Or.inl eo), Bool.false_and]
          exact decide_eq_false (fun q => e q.symm)
        | true => rw [(t6 o f (by omega) hf (by omega) eo hbf).1, Bool.true_and])
      rw [ea]
      cases anyB (fun o => bt (Y.1 m 21) o && decide (Y.1 (m + 7) (9 * o + f) = Y.1 (m + 7) (9 * k + f))) k with
      | false => exact ⟨false, by simp only [e, if_false, bI_f, if_true], by simp only [e, if_false, bI_f, true_or, grd_T]⟩
      | true => exact ⟨true, by simp (disch := first | assumption | omega) only [e, litM, grd_t, grd_T, ldI_t, stI_t, ldA_t, stA_t, lenA_t, n_lt_t, n_lt_f, n_le_t, n_le_f, n_eq_t, n_eq_f, if_true, if_false, nI_add, nI_mul, bt_d, bI_z, bI_o, Option.bind_some, Bool.true_eq_false, Bool.false_eq_true, bI_t], by simp (disch := first | assumption | omega) only [e, litM, grd_t, grd_T, ldI_t, stI_t, ldA_t, stA_t, lenA_t, n_lt_t, n_lt_f, n_le_t, n_le_f, n_eq_t, n_eq_f, if_true, if_false, nI_add, nI_mul, bt_d, bI_z, bI_o, Option.bind_some, Bool.true_eq_false, Bool.false_eq_true, bI_t, or_true]⟩
  · simp (disch := first | assumption | omega) only [litM, grd_t, grd_T, ldI_t, stI_t, ldA_t, stA_t, lenA_t, n_lt_t, n_lt_f, n_le_t, n_le_f, n_eq_t, n_eq_f, if_true, if_false, nI_add, nI_mul, bt_d, bI_z, bI_o, Option.bind_some, Bool.true_eq_false, Bool.false_eq_true, ldR, eq_self, if_true, Option.bind_some, m0, m3, g0, g1, nf, w1, w2, s10_mergedAt hm']
    by_cases e : Y.1 (m + 7) (9 * k + f) = nI 9999
    · exact ⟨true, by simp only [e, if_true]; rfl, by simp only [e, if_true]; rfl⟩
    · exact ⟨false, by simp only [e, if_false]; rfl, by simp only [e, if_false]; rfl⟩
  · have w3 := w3 rfl
    simp (disch := first | assumption | omega) only [litM, grd_t, grd_T, ldI_t, stI_t, ldA_t, stA_t, lenA_t, n_lt_t, n_lt_f, n_le_t, n_le_f, n_eq_t, n_eq_f, if_true, if_false, nI_add, nI_mul, bt_d, bI_z, bI_o, Option.bind_some, Bool.true_eq_false, Bool.false_eq_true, ldR, eq_self, if_true, Option.bind_some, m0, m3, g0, g1, nf, nq, w1, w2, w3, s10_mergedAt hm']
    by_cases e : Y.1 (m + 7) (9 * k + f) = nI 9999
    · exact ⟨false, by simp only [e, if_true]; rfl, by simp only [e, if_true]; rfl⟩
    · by_cases e2 : Y.1 (m + 7) (9 * k + q) = nI 9999
      · exact ⟨false, by simp only [e, e2, if_true, if_false]; rfl, by simp only [e, e2, if_true, if_false]; rfl⟩
      · by_cases e3 : Y.1 (m + 7) (9 * k + f) < Y.1 (m + 7) (9 * k + q)
        · exact ⟨false, by simp only [e, e2, e3, if_true, if_false]; rfl, by simp only [e, e2, e3, if_true, if_false]; rfl⟩
        · exact ⟨true, by simp only [e, e2, e3, if_false]; rfl, by simp only [e, e2, e3, if_false]; rfl⟩
