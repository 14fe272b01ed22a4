theorem s10_mergesOwn {τ : Sh} {Y : Mx} {m b c : Nat} {bl br bb : Bool} (hm : mdOK τ m) (hb : b ≤ 931) (hc : c < 9) (wl : bt (Y.1 (m + 3) (b + 200 * 0)) c = bl) (wr : bt (Y.1 (m + 3) (b + 200 * 1)) c = br) (wb : bt (Y.1 (m + 3) (b + 200 * 2)) c = bb) : f_X10_mergesOwn τ Y m (nI b) (nI c) = (if bI bb = nI 0 then some Y else if bI bl = nI 0 then (if bI br = nI 0 then some Y else f_X10_mergesOwn_37 τ m (nI b) (nI c) (bI bl) (bI br) Y) else f_X10_mergesOwn_37 τ m (nI b) (nI c) (bI bl) (bI br) Y) := by
  have hM := hm
  obtain ⟨m0, m1, m2, m3, m4, m5, m6, m7, m8, m9, m10, m11, m12, m13, m14, m15, m16, m17, mq1, mq2, mq3, mq4, mq5, mq6, mq7, mq8, mq9, mq10, mq11, mq12, mq13, mq14, mq15, mq16, mq17, mn1, mn2, mn3, mn4, mn5, mn6, mn7, mn8, mn9, mn10, mn11, mn12, mn13, mn14, mn15, mn16, mn17⟩ := hm
  unfold f_X10_mergesOwn
  rw [grd_t m0]
  simp only [litM]
  rw [s10_hasColumn hM hb (show 0 < 3 by omega), s10_hasColumn hM hb (show 1 < 3 by omega), s10_hasColumn hM hb (show 2 < 3 by omega), inB_n hc (by omega), inB_n hc (by omega), inB_n hc (by omega), wl, wr, wb]
  rfl
theorem s_mergeColumn {σ : Sh} {X : Mx} {g s L R c : Nat} {bl br : Bool} (hg : mgOK σ g) (hs : stOK σ s L R) (hc : c < 9) (wl : bt (X.1 L 0) c = bl) (wr : bt (X.1 R 0) c = br) : f_X2_mergeColumn σ X g s (nI c) = (if bI bl = nI 0 then f_X2_mergeColumn_55 σ g s (nI c) (bI bl) (bI br) X else (if bI br = nI 0 then f_X2_mergeColumn_55 σ g s (nI c) (bI bl) (bI br) X else bnd2 (f_X2_mergedName σ X g s (nI c)) fun v9 X8 => bnd2 (f_X2_mergedType σ X8 g s (nI c)) fun v13 X12 => (f_X6_putColumn σ X12 (g + 1) (nI c) v9 v13).bind fun X15 => some X15)) := by
  obtain ⟨g0, g1, g2, g3, g4, g5, g6, gT, k5, l5, k6, l6, k7, l7, k8, l8, k9, l9⟩ := hg
  obtain ⟨s0, s1, s2, s3, s4, s5, s6, s7, s8, s9, s10, s11, s12, s13, s14, s15, s16, s17, s18⟩ := hs
  simp (disch := first | assumption | omega) only [f_X2_mergeColumn, ldR, eq_self, if_true, Option.bind_some, s0, s2, s3, g0, g1, grd_t, s_hasColumn s9, s_hasColumn s10, inB_n, wl, wr, litM, grd_T]
/-- one column of the base, in both -/
theorem own_rel {σ τ : Sh} {n g m s L R b c : Nat} {ch : Nat → Int32} {Lh Rh : Int32} {X0 X Y0 Y : Mx} (hg : mgOK σ g) (hs : stOK σ s L R) (hm : mdOK τ m) (hb : b ≤ 931) (hc : c < 5) (hd : s + 16 < g ∨ g + 9 < s) (hS0 : StR X0.1 s L R (Y0.1 (m + 3)) b) (hch : ch = X0.1 (s + 16)) (hLh : Lh = X0.1 L 0) (hRh : Rh = X0.1 R 0) (h : PH c n ch Lh Rh X0 X g Y0 Y m) :
    ∃ X1 Y1, (if bt (X.1 (s + 1) 0) c = true then f_X2_mergeColumn σ X g s (nI c) else some X) = some X1 ∧ f_X10_mergesOwn τ Y m (nI b) (nI c) = some Y1 ∧ ∃ n1, PH (c + 1) n1 ch Lh Rh X0 X1 g Y0 Y1 m := by
  obtain ⟨hM, hn, hk, hcr, hso, hh⟩ := h
  have hS := hM.st hs hd hS0
  have hLR := hs.2.2.2.2.2.2.2.2.2.2.2.2.2.2.2.2.2.2
  have xL : X.1 L = X0.1 L := hM.at L (by omega)
  have xR : X.1 R = X0.1 R := hM.at R (by omega)
  have xC : X.1 (s + 16) = X0.1 (s + 16) := hM.at _ (by omega)
  have hch1 : ch = X.1 (s + 16) := by rw [hch, xC]
  have hS' := hS
  obtain ⟨tL, tR, tB, -, -, -, -, -, -, -⟩ := hS'
  have hmono : ∀ j, j < 316 → P1 c j → P1 (c + 1) j := fun j _ q => ⟨q.1, by have := q.2; omega⟩
  have hskip : PH (c + 1) n ch Lh Rh X0 X g Y0 Y m := ⟨hM.mono hmono, by omega, hk, hcr, hso, fun j hj => hh j (by omega)⟩
  cases eb : bt (X.1 (s + 1) 0) c with
  | false =>
    refine ⟨X, Y, by rw [if_neg (by decide)], ?_, n, hskip⟩
    rw [s10_mergesOwn hm hb (by omega) rfl rfl (show bt (Y.1 (m + 3) (b + 200 * 2)) c = false by rw [← tB.1]; exact eb), if_pos bI_f]
  | true =>
    rw [if_pos rfl]
    cases el : bt (X.1 L 0) c with
    | false =>
      cases er : bt (X.1 R 0) c with
      | false =>
        refine ⟨X, Y, ?_, ?_, n, hskip⟩
        · rw [s_mergeColumn hg hs (by omega) el er, if_pos bI_f]
          simp (disch := first | assumption | omega) only [f_X2_mergeColumn_55, litM, grd_t, grd_T, ldI_t, stI_t, ldA_t, stA_t, lenA_t, n_lt_t, n_lt_f, n_le_t, n_le_f, n_eq_t, n_eq_f, if_true, if_false, nI_add, nI_mul, bt_d, bI_z, bI_o, Option.bind_some, Bool.true_eq_false, Bool.false_eq_true, bI_f]
        · rw [s10_mergesOwn hm hb (by omega) (show bt (Y.1 (m + 3) (b + 200 * 0)) c = false by rw [← tL.1]; exact el) (show bt (Y.1 (m + 3) (b + 200 * 1)) c = false by rw [← tR.1]; exact er) (show bt (Y.1 (m + 3) (b + 200 * 2)) c = true by rw [← tB.1]; exact eb), if_neg (by decide), if_pos bI_f, if_pos bI_f]
      | true =>
        have hY := hM.src (v := -(nI 1)) (w := nI c) (show c < 9 by omega) (hh c (by omega))
        have hSY := hY.st hs hd hS0
        obtain ⟨X1, Y1, n1, q1, q2, q3, q4, q5, q6, q7, q8⟩ := gone_rel (c := c) (t := 1) hg hs hm hb hc (by omega) hSY er eb (fun q => by have := q.2; omega) (by omega) hch1 (fun j => by simp (disch := first | assumption | omega) only [sI_na]; exact hk j) hd (by
          rw [hLh, hRh, ← xL, ← xR, el, er]
          exact ⟨hcr c (by omega), by rw [sI_nk (by omega), sI_eq]; rfl, by rw [sI_eq]; rfl⟩) hY
        refine ⟨X1, Y1, ?_, ?_, n1, q4.mono (fun j hj q => ?_), by omega, q5, ?_, ?_, ?_⟩
        · rw [s_mergeColumn hg hs (by omega) el er, if_pos bI_f]
          simp (disch := first | assumption | omega) only [f_X2_mergeColumn_55, f_X2_mergeColumn_64, litM, grd_t, grd_T, ldI_t, stI_t, ldA_t, stA_t, lenA_t, n_lt_t, n_lt_f, n_le_t, n_le_f, n_eq_t, n_eq_f, if_true, if_false, nI_add, nI_mul, bt_d, bI_z, bI_o, Option.bind_some, Bool.true_eq_false, Bool.false_eq_true, bI_f, bI_t]
          exact q1
        · rw [s10_mergesOwn hm hb (by omega) (show bt (Y.1 (m + 3) (b + 200 * 0)) c = false by rw [← tL.1]; exact el) (show bt (Y.1 (m + 3) (b + 200 * 1)) c = true by rw [← tR.1]; exact er) (show bt (Y.1 (m + 3) (b + 200 * 2)) c = true by rw [← tB.1]; exact eb), if_neg (by decide), if_pos bI_f, if_neg (by decide)]
          obtain ⟨m0, m1, m2, m3, m4, m5, m6, m7, m8, m9, m10, m11, m12, m13, m14, m15, m16, m17, mq1, mq2, mq3, mq4, mq5, mq6, mq7, mq8, mq9, mq10, mq11, mq12, mq13, mq14, mq15, mq16, mq17, mn1, mn2, mn3, mn4, mn5, mn6, mn7, mn8, mn9, mn10, mn11, mn12, mn13, mn14, mn15, mn16, mn17⟩ := hm
          simp (disch := first | assumption | omega) only [f_X10_mergesOwn_37, f_X10_mergesOwn_51, f_X10_mergesOwn_70, f_X10_mergesOwn_102, litM, grd_t, grd_T, ldI_t, stI_t, ldA_t, stA_t, lenA_t, n_lt_t, n_lt_f, n_le_t, n_le_f, n_eq_t, n_eq_f, if_true, if_false, nI_add, nI_mul, bt_d, bI_z, bI_o, Option.bind_some, Bool.true_eq_false, Bool.false_eq_true, ldR, eq_self, if_true, Option.bind_some, m0, m9, bI_f, bI_t]
          exact q2
        · rcases q with q | q
          · exact hmono j hj q
          · exact ⟨by omega, by omega⟩
        · rw [q6]; exact hcr
        · rw [q7]
          intro j h1 h2
          rw [sI_nk (by omega), sI_nk (by omega), sI_nk (by omega), sI_nk (by omega)]
          exact hso j h1 h2
        · intro j hj
          rw [q8 j (by omega)]
          simp (disch := first | assumption | omega) only [sI_na]
          exact hh j (by omega)
    | true =>
      cases er : bt (X.1 R 0) c with
      | false =>
        have hY := hM.src (v := nI c) (w := -(nI 1)) (show c < 9 by omega) (hh c (by omega))
        have hSY := hY.st hs hd hS0
        obtain ⟨X1, Y1, n1, q1, q2, q3, q4, q5, q6, q7, q8⟩ := gone_rel (c := c) (t := 0) hg hs hm hb hc (by omega) hSY el eb (fun q => by have := q.2; omega) (by omega) hch1 (fun j => by simp (disch := first | assumption | omega) only [sI_na]; exact hk j) hd (by
          rw [hLh, hRh, ← xL, ← xR, el, er]
          exact ⟨hcr c (by omega), by rw [sI_nk (by omega), sI_eq]; rfl, by rw [sI_eq]; rfl⟩) hY
        refine ⟨X1, Y1, ?_, ?_, n1, q4.mono (fun j hj q => ?_), by omega, q5, ?_, ?_, ?_⟩
        · rw [s_mergeColumn hg hs (by omega) el er, if_neg (by decide), if_pos bI_f]
          simp (disch := first | assumption | omega) only [f_X2_mergeColumn_55, f_X2_mergeColumn_64, litM, grd_t, grd_T, ldI_t, stI_t, ldA_t, stA_t, lenA_t, n_lt_t, n_lt_f, n_le_t, n_le_f, n_eq_t, n_eq_f, if_true, if_false, nI_add, nI_mul, bt_d, bI_z, bI_o, Option.bind_some, Bool.true_eq_false, Bool.false_eq_true, bI_f, bI_t]
          exact q1
        · rw [s10_mergesOwn hm hb (by omega) (show bt (Y.1 (m + 3) (b + 200 * 0)) c = true by rw [← tL.1]; exact el) (show bt (Y.1 (m + 3) (b + 200 * 1)) c = false by rw [← tR.1]; exact er) (show bt (Y.1 (m + 3) (b + 200 * 2)) c = true by rw [← tB.1]; exact eb), if_neg (by decide), if_neg (by decide)]
          obtain ⟨m0, m1, m2, m3, m4, m5, m6, m7, m8, m9, m10, m11, m12, m13, m14, m15, m16, m17, mq1, mq2, mq3, mq4, mq5, mq6, mq7, mq8, mq9, mq10, mq11, mq12, mq13, mq14, mq15, mq16, mq17, mn1, mn2, mn3, mn4, mn5, mn6, mn7, mn8, mn9, mn10, mn11, mn12, mn13, mn14, mn15, mn16, mn17⟩ := hm
          simp (disch := first | assumption | omega) only [f_X10_mergesOwn_37, f_X10_mergesOwn_51, f_X10_mergesOwn_70, f_X10_mergesOwn_102, litM, grd_t, grd_T, ldI_t, stI_t, ldA_t, stA_t, lenA_t, n_lt_t, n_lt_f, n_le_t, n_le_f, n_eq_t, n_eq_f, if_true, if_false, nI_add, nI_mul, bt_d, bI_z, bI_o, Option.bind_some, Bool.true_eq_false, Bool.false_eq_true, ldR, eq_self, if_true, Option.bind_some, m0, m9, bI_f, bI_t]
          exact q2
        · rcases q with q | q
          · exact hmono j hj q
          · exact ⟨by omega, by omega⟩
        · rw [q6]; exact hcr
        · rw [q7]
          intro j h1 h2
          rw [sI_nk (by omega), sI_nk (by omega), sI_nk (by omega), sI_nk (by omega)]
          exact hso j h1 h2
        · intro j hj
          rw [q8 j (by omega)]
          simp (disch := first | assumption | omega) only [sI_na]
          exact hh j (by omega)
      | true =>
        have hY := hM.src (v := nI c) (w := nI c) (show c < 9 by omega) (hh c (by omega))
        have hSY := hY.st hs hd hS0
        obtain ⟨v, X1, Y1, n1, q1, q2, q3, q4, q5⟩ := name_rel hg hs hm hb hc hSY el er eb (fun q => by have := q.2; omega) (by omega) hch1 hY
        have x1L : X1.1 L = X.1 L := q5.2.1 L (by omega) (by omega) (by omega) (by omega)
        have x1R : X1.1 R = X.1 R := q5.2.1 R (by omega) (by omega) (by omega) (by omega)
        have x1B : X1.1 (s + 1) = X.1 (s + 1) := q5.2.1 _ (by omega) (by omega) (by omega) (by omega)
        have x1C : X1.1 (s + 16) = X.1 (s + 16) := q5.2.1 _ (by omega) (by omega) (by omega) (by omega)
        obtain ⟨w, X2, Y2, n2, r1, r2, r3, r4, r5, r6⟩ := type_rel hg hs hm hb hc (q4.st hs hd hS0) (by rw [x1L]; exact el) (by rw [x1R]; exact er) (by rw [x1B]; exact eb) (fun q => q.elim (fun q => by have := q.2; omega) (fun q => by omega)) (by omega) (hch1.trans x1C.symm) q4
        have hA := q5.trans r5
        have a9 : X2.1 (g + 9) = X.1 (g + 9) := hA.2.1 _ (by omega) (by omega) (by omega) (by omega)
        have b9 : Y2.1 (m + 9) = (sI (sI Y (m + 9) c (nI c)) (m + 9) (9 + c) (nI c)).1 (m + 9) := hA.2.2.2.1 _ (by omega) (by omega) (by omega)
        have hk2 : ∀ j, bt (Y2.1 m 21) j = false := fun j => by rw [hA.2.2.2.2 21 (by omega), sI_na (by omega), sI_na (by omega)]; exact hk j
        have h20 : Y2.1 m 20 = Y.1 m 20 := by rw [hA.2.2.2.2 20 (by omega), sI_na (by omega), sI_na (by omega)]
        have hput := r4.put (nm := v) (ty := w) hk2 (show c < 9 by omega) r6 (by
          rw [a9, b9, hLh, hRh, ← xL, ← xR, el, er]
          exact ⟨fun _ => ⟨hcr c (by omega), by rw [sI_nk (by omega), sI_eq]; rfl, by rw [sI_eq]; rfl⟩, fun q => by omega, fun q => by omega⟩)
        refine ⟨_, _, ?_, ?_, n2, hput.mono (fun j hj q => ?_), by omega, fun j => ?_, ?_, ?_, ?_⟩
        · rw [s_mergeColumn hg hs (by omega) el er, if_neg (by decide), if_neg (by decide), q1]
          simp only [bnd2]
          rw [r1]
          simp only [s_putColumn hg.2.2.2.2.2.2.2.1 (show c < 9 by omega), Option.bind_some]
        · rw [s10_mergesOwn hm hb (by omega) (show bt (Y.1 (m + 3) (b + 200 * 0)) c = true by rw [← tL.1]; exact el) (show bt (Y.1 (m + 3) (b + 200 * 1)) c = true by rw [← tR.1]; exact er) (show bt (Y.1 (m + 3) (b + 200 * 2)) c = true by rw [← tB.1]; exact eb), if_neg (by decide), if_neg (by decide)]
          have hM' := hm
          obtain ⟨m0, m1, m2, m3, m4, m5, m6, m7, m8, m9, m10, m11, m12, m13, m14, m15, m16, m17, mq1, mq2, mq3, mq4, mq5, mq6, mq7, mq8, mq9, mq10, mq11, mq12, mq13, mq14, mq15, mq16, mq17, mn1, mn2, mn3, mn4, mn5, mn6, mn7, mn8, mn9, mn10, mn11, mn12, mn13, mn14, mn15, mn16, mn17⟩ := hm
          simp (disch := first | assumption | omega) only [f_X10_mergesOwn_37, f_X10_mergesOwn_51, f_X10_mergesOwn_70, litM, grd_t, grd_T, ldI_t, stI_t, ldA_t, stA_t, lenA_t, n_lt_t, n_lt_f, n_le_t, n_le_f, n_eq_t, n_eq_f, if_true, if_false, nI_add, nI_mul, bt_d, bI_z, bI_o, Option.bind_some, Bool.true_eq_false, Bool.false_eq_true, ldR, eq_self, if_true, Option.bind_some, m0, m9, bI_t, q2, r2, bnd2, s10_takes hM']
        · rcases q with (q | q) | q
          · exact hmono j hj q
          · exact ⟨by omega, by omega⟩
          · exact ⟨by omega, by omega⟩
        · simp (disch := first | assumption | omega) only [sI_na, sI_nk]; exact hk2 j
        · simp (disch := first | assumption | omega) only [sI_ne]; rw [a9]; exact hcr
        · simp (disch := first | assumption | omega) only [sI_ne]
          rw [b9]
          intro j h1 h2
          rw [sI_nk (by omega), sI_nk (by omega), sI_nk (by omega), sI_nk (by omega)]
          exact hso j h1 h2
        · intro j hj
          simp (disch := first | assumption | omega) only [sI_na, sI_eq]
          rw [bt_set (by omega), h20, hh j (by omega)]
          simp; omega
/-- all columns of the base -/
theorem own_loop {σ τ : Sh} {n g m s L R b N M : Nat} {ch : Nat → Int32} {Lh Rh : Int32} {X0 X Y0 Y : Mx} (hg : mgOK σ g) (hs : stOK σ s L R) (hm : mdOK τ m) (hb : b ≤ 931) (hd : s + 16 < g ∨ g + 9 < s) (hS0 : StR X0.1 s L R (Y0.1 (m + 3)) b) (hch : ch = X0.1 (s + 16)) (hLh : Lh = X0.1 L 0) (hRh : Rh = X0.1 R 0) (h : PH 0 n ch Lh Rh X0 X g Y0 Y m) (hN : 5 < N) (hM : 5 < M) :
    ∃ N1 M1 X1 Y1 n1, f_X2_run_40 σ g s N X (nI 0) = f_X2_run_40 σ g s (N1 + 1) X1 (nI 5) ∧ f_X10_merges_60 τ m (nI b) M Y (nI 0) = f_X10_merges_60 τ m (nI b) (M1 + 1) Y1 (nI 5) ∧ PH 5 n1 ch Lh Rh X0 X1 g Y0 Y1 m := by
  obtain ⟨N1, M1, X1, Y1, e1, e2, n1, i⟩ := up_loop2 (fun n s' k => f_X2_run_40 σ g s n s' (nI k)) (fun n t k => f_X10_merges_60 τ m (nI b) n t (nI k)) 5 (fun k x y => ∃ n1, PH k n1 ch Lh Rh X0 x g Y0 y m) (by
    intro N1 M1 k x y hk ⟨n1, i⟩
    obtain ⟨x1, y1, e1, e2, i1⟩ := own_rel hg hs hm hb hk hd hS0 hch hLh hRh i
    refine ⟨x1, y1, ?_, ?_, i1⟩
    · show f_X2_run_40 σ g s (N1 + 1) x (nI k) = f_X2_run_40 σ g s N1 x1 (nI (k + 1))
      rw [f_X2_run_40]
      obtain ⟨s0, s1, s2, s3, s4, s5, s6, s7, s8, s9, s10, s11, s12, s13, s14, s15, s16, s17, s18⟩ := hs
      simp (disch := first | assumption | omega) only [litM, grd_t, grd_T, ldI_t, stI_t, ldA_t, stA_t, lenA_t, n_lt_t, n_lt_f, n_le_t, n_le_f, n_eq_t, n_eq_f, if_true, if_false, nI_add, nI_mul, bt_d, bI_z, bI_o, Option.bind_some, Bool.true_eq_false, Bool.false_eq_true, ldR, eq_self, if_true, Option.bind_some, s0, s1, s_hasColumn s8, inB_n, f_X2_run_62]
      cases eb : bt (x.1 (s + 1) 0) k with
      | false =>
        rw [eb, if_neg (by decide)] at e1
        cases e1
        rw [if_pos rfl]
      | true =>
        rw [eb, if_pos rfl] at e1
        rw [if_neg (by decide), e1]
        rfl
    · show f_X10_merges_60 τ m (nI b) (M1 + 1) y (nI k) = f_X10_merges_60 τ m (nI b) M1 y1 (nI (k + 1))
      rw [f_X10_merges_60]
      simp (disch := first | assumption | omega) only [litM, grd_t, grd_T, ldI_t, stI_t, ldA_t, stA_t, lenA_t, n_lt_t, n_lt_f, n_le_t, n_le_f, n_eq_t, n_eq_f, if_true, if_false, nI_add, nI_mul, bt_d, bI_z, bI_o, Option.bind_some, Bool.true_eq_false, Bool.false_eq_true, e2]) N M 0 X Y (by omega) ⟨n, h⟩ (by omega) (by omega)
  exact ⟨N1, M1, X1, Y1, n1, e1, e2, i⟩
