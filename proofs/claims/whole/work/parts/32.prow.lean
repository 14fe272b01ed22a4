/-! ===== rows ===== -/
theorem sI_self {Y : Mx} {a k : Nat} : sI Y a k (Y.1 a k) = Y := by
  refine mx_ext (fun b j => ?_) rfl
  rw [sI_1]
  by_cases e : b = a ∧ j = k
  · rw [if_pos e, e.1, e.2]
  · rw [if_neg e]
theorem MI.row {n g m : Nat} {P : Nat → Prop} {ch : Nat → Int32} {Lh Rh : Int32} {X0 X Y0 Y : Mx} (h : MI 0 P n ch Lh Rh X0 X g Y0 Y m) {k : Nat} (hk : k < 20) : MI 0 P n ch Lh Rh X0 (sI X (g + 1) 1 (X.1 (g + 1) 1 ||| ((1 : Int32) <<< (nI k &&& 31)))) g Y0 (sI Y m 21 (Y.1 m 21 ||| ((1 : Int32) <<< (nI k &&& 31)))) m := by
  obtain ⟨f1, f2, ⟨t1, t2, t3, t4, t5, t6, t7⟩, cf, u, sr⟩ := h
  refine ⟨⟨f1.1, fun q hq => ?_⟩, ⟨f2.1, fun q h1 h2 => ?_, fun j h1 h2 h3 => ?_⟩, ?_, ?_, ?_, ?_⟩
  · rw [sI_ne (by omega)]; exact f1.2 q hq
  · rw [sI_ne (by omega)]; exact f2.2.1 q h1 h2
  · rw [sI_nk (by omega)]; exact f2.2.2 j h1 h2 h3
  · simp (disch := first | assumption | omega) only [sI_ne, sI_eq, sI_nk]
    refine ⟨?_, ?_, t3, low_set t4 hk (by omega), t5, fun j d hj hd h0 => by omega, fun j d hj hd h0 => t7 j d hj hd (Or.inr (Or.inr (by omega)))⟩
    · rw [sI_nk (by omega)]; exact t1
    · rw [sI_eq, t2]
  · simp (disch := first | assumption | omega) only [sI_na, sI_ne, sI_nk]; exact cf
  · simp (disch := first | assumption | omega) only [sI_na, sI_ne, sI_nk]; exact u
  · simp (disch := first | assumption | omega) only [sI_na, sI_ne, sI_nk]; exact sr
theorem row_rel {σ τ : Sh} {n g m s L R b k : Nat} {ch : Nat → Int32} {Lh Rh : Int32} {X0 X Y0 Y : Mx} (hg : mgOK σ g) (hs : stOK σ s L R) (hm : mdOK τ m) (hb : b ≤ 931) (hd : s + 16 < g ∨ g + 9 < s) (hS0 : StR X0.1 s L R (Y0.1 (m + 3)) b) (hch : ch = X0.1 (s + 16)) (hk : k < 20) (h : MI 0 (fun j => j < 36 + k) n ch Lh Rh X0 X g Y0 Y m) (hn : n ≤ 19 + k) :
    ∃ X1 Y1 v n1, f_X2_mergeRow σ X g s (nI k) = some X1 ∧ f_X10_isMergedRow τ Y m (nI b) (nI k) = some (bI v, Y1) ∧ n1 ≤ 19 + (k + 1) ∧ Y1.1 m 21 = Y.1 m 21 ∧ MI 0 (fun j => j < 36 + (k + 1)) n1 ch Lh Rh X0 X1 g Y0 (if v = true then sI Y1 m 21 (Y1.1 m 21 ||| ((1 : Int32) <<< (nI k &&& 31))) else Y1) m := by
  have hS := h.st hs hd hS0
  have hmono := h.mono (Q := fun j => j < 36 + (k + 1)) (fun j _ q => by omega)
  have xC : X.1 (s + 16) = X0.1 (s + 16) := h.1.2 _ (by omega)
  have hm' := hm
  have hg' := hg
  have hs' := hs
  have hS' := hS
  obtain ⟨tL, tR, tB, -, -, -, -, -, -, cs⟩ := hS'
  have el : bt (Y.1 (m + 3) (b + 200 * 0 + 1)) k = bt (X.1 L 1) k := by rw [← tL.2.1]
  have er : bt (Y.1 (m + 3) (b + 200 * 1 + 1)) k = bt (X.1 R 1) k := by rw [← tR.2.1]
  have eb : bt (Y.1 (m + 3) (b + 200 * 2 + 1)) k = bt (X.1 (s + 1) 1) k := by rw [← tB.2.1]
  have em : f_X10_isMergedRow τ Y m (nI b) (nI k) = (if bI (bt (X.1 (s + 1) 1) k) = nI 0 then f_X10_isMergedRow_33 τ (bI (bt (X.1 L 1) k)) (bI (bt (X.1 R 1) k)) Y else (if bI (bt (X.1 L 1) k) = bI (bt (X.1 R 1) k) then f_X10_isMergedRow_33 τ (bI (bt (X.1 L 1) k)) (bI (bt (X.1 R 1) k)) Y else (if bI (bt (X.1 L 1) k) = nI 0 then f_X10_isMergedRow_59 τ m (nI b) (nI k) Y m (nI b) (nI 1) else f_X10_isMergedRow_59 τ m (nI b) (nI k) Y m (nI b) (nI 0)))) := by
    unfold f_X10_isMergedRow
    rw [grd_t hm.1]
    simp only [litM]
    rw [s10_hasRow hm hb (show 0 < 3 by omega), s10_hasRow hm hb (show 1 < 3 by omega), s10_hasRow hm hb (show 2 < 3 by omega), inB_n hk (by omega), inB_n hk (by omega), inB_n hk (by omega), el, er, eb]
    rfl
  have ec : f_X2_mergeRow σ X g s (nI k) = (if bI (bt (X.1 L 1) k) = nI 0 then (if bI (bt (X.1 R 1) k) = nI 0 then some X else f_X2_mergeRow_29 σ g s (nI k) (bI (bt (X.1 L 1) k)) (bI (bt (X.1 R 1) k)) X) else f_X2_mergeRow_29 σ g s (nI k) (bI (bt (X.1 L 1) k)) (bI (bt (X.1 R 1) k)) X) := by
    obtain ⟨g0, g1, g2, g3, g4, g5, g6, gT, k5, l5, k6, l6, k7, l7, k8, l8, k9, l9⟩ := hg
    obtain ⟨s0, s1, s2, s3, s4, s5, s6, s7, s8, s9, s10, s11, s12, s13, s14, s15, s16, s17, s18⟩ := hs
    simp (disch := first | assumption | omega) only [f_X2_mergeRow, ldR, eq_self, if_true, Option.bind_some, s0, s2, s3, g0, grd_t, s_hasRow s9, s_hasRow s10, inB_n, litM, grd_T]
  have e29 : ∀ x y, f_X2_mergeRow_29 σ g s (nI k) x y X = (if bI (bt (X.1 (s + 1) 1) k) = nI 0 then f_X2_mergeRow_85 σ g (nI k) X else (if x = y then f_X2_mergeRow_85 σ g (nI k) X else (if x = nI 0 then f_X2_mergeRow_56 σ g s (nI k) X s (nI 1) else f_X2_mergeRow_56 σ g s (nI k) X s (nI 0)))) := by
    intro x y
    obtain ⟨s0, s1, s2, s3, s4, s5, s6, s7, s8, s9, s10, s11, s12, s13, s14, s15, s16, s17, s18⟩ := hs
    simp (disch := first | assumption | omega) only [f_X2_mergeRow_29, ldR, eq_self, if_true, Option.bind_some, s0, s1, s_hasRow s8, inB_n, litM]
  have e85 : ∀ Z : Mx, f_X2_mergeRow_85 σ g (nI k) Z = some (sI Z (g + 1) 1 (Z.1 (g + 1) 1 ||| ((1 : Int32) <<< (nI k &&& 31)))) := by
    intro Z
    unfold f_X2_mergeRow_85
    rw [ldR_g hg', s_putRow hg.2.2.2.2.2.2.2.1 hk]
    rfl
  -- gone in one side
  have one : ∀ t, t < 2 → ∃ X1 Y1 v n1, f_X2_mergeRow_56 σ g s (nI k) X s (nI t) = some X1 ∧ f_X10_isMergedRow_59 τ m (nI b) (nI k) Y m (nI b) (nI t) = some (bI v, Y1) ∧ n1 ≤ 19 + (k + 1) ∧ Y1.1 m 21 = Y.1 m 21 ∧ MI 0 (fun j => j < 36 + (k + 1)) n1 ch Lh Rh X0 X1 g Y0 (if v = true then sI Y1 m 21 (Y1.1 m 21 ||| ((1 : Int32) <<< (nI k &&& 31))) else Y1) m := by
    intro t ht
    have hTO : TabR X.1 (sd t L R) (Y.1 (m + 3)) (b + 200 * t) := by
      rcases (show t = 0 ∨ t = 1 by omega) with rfl | rfl
      · exact hS.1
      · exact hS.2.1
    have hany : anyB (fun c => rChg (Y.1 (m + 3)) b t k c) 9 = anyB (fun c => cChg X.1 (s + 1) (sd t L R) k c) 9 := anyB_congr (fun c hc => chg_rel tB hTO hk hc)
    unfold f_X2_mergeRow_56 f_X10_isMergedRow_59
    rw [s_isRowChanged hs ht hk, s10_isRowChanged hm hb (by omega) hk, hany]
    simp only [Option.bind_some, litM, ifI]
    cases ea : anyB (fun c => cChg X.1 (s + 1) (sd t L R) k c) 9 with
    | false =>
      exact ⟨X, Y, false, n, rfl, rfl, by omega, rfl, hmono⟩
    | true =>
      obtain ⟨X1, Y1, n1, q1, q2, q3, q4, q5⟩ := ask_rel (l := -(nI 1)) (r := -(nI 1)) hg hs hm hb (show okI (36 + k) from ⟨by omega, by omega⟩) (id_row k hk) (fun q => by omega) (by omega) (hch.trans xC.symm) (cs _ (by omega)).1 h
      have q4 := q4.mono (Q := fun j => j < 36 + (k + 1)) (fun j _ q => by rcases q with q | q <;> omega)
      have h21 : Y1.1 m 21 = Y.1 m 21 := q5.2.2.2.2 21 (by omega)
      rw [if_pos rfl, if_pos rfl, q1, q2]
      simp only [bnd2]
      by_cases v1 : X.1 (s + 16) (36 + k) = nI 1
      · rw [if_pos v1, if_pos v1]
        exact ⟨X1, Y1, false, n1, rfl, rfl, by omega, h21, q4⟩
      · rw [if_neg v1, if_neg v1, e85]
        exact ⟨_, Y1, true, n1, rfl, rfl, by omega, h21, q4.row hk⟩
  rw [em, ec, e29]
  cases bl : bt (X.1 L 1) k with
  | false =>
    cases br : bt (X.1 R 1) k with
    | false =>
      refine ⟨X, Y, false, n, ?_, ?_, by omega, rfl, hmono⟩
      · simp only [bI_f, if_true]
      · cases bt (X.1 (s + 1) 1) k <;> simp only [bI_f, if_true, f_X10_isMergedRow_33, litM, ite_self]
    | true =>
      cases bb : bt (X.1 (s + 1) 1) k with
      | false =>
        refine ⟨_, Y, true, n, ?_, ?_, by omega, rfl, hmono.row hk⟩
        · rw [e85]; rfl
        · rfl
      | true =>
        obtain ⟨X1, Y1, v, n1, q1, q2, q3, q4, q5⟩ := one 1 (by omega)
        exact ⟨X1, Y1, v, n1, q1, q2, q3, q4, q5⟩
  | true =>
    cases br : bt (X.1 R 1) k with
    | false =>
      cases bb : bt (X.1 (s + 1) 1) k with
      | false =>
        refine ⟨_, Y, true, n, ?_, ?_, by omega, rfl, hmono.row hk⟩
        · rw [e85]; rfl
        · rfl
      | true =>
        obtain ⟨X1, Y1, v, n1, q1, q2, q3, q4, q5⟩ := one 0 (by omega)
        exact ⟨X1, Y1, v, n1, q1, q2, q3, q4, q5⟩
    | true =>
      refine ⟨_, Y, true, n, ?_, ?_, by omega, rfl, hmono.row hk⟩
      · rw [e85]
        cases bt (X.1 (s + 1) 1) k <;> rfl
      · cases bt (X.1 (s + 1) 1) k <;> rfl
theorem rows_loop {σ τ : Sh} {n g m s L R b : Nat} {ch : Nat → Int32} {Lh Rh : Int32} {X0 X Y0 Y : Mx} (hg : mgOK σ g) (hs : stOK σ s L R) (hm : mdOK τ m) (hb : b ≤ 931) (hd : s + 16 < g ∨ g + 9 < s) (hS0 : StR X0.1 s L R (Y0.1 (m + 3)) b) (hch : ch = X0.1 (s + 16)) (h : MI 0 (fun j => j < 36) n ch Lh Rh X0 X g Y0 Y m) (hn : n ≤ 19) :
    ∃ X1 Y1 n1, f_X2_run_80 σ g s FU X (nI 0) = f_X2_run_100 σ g s FU X1 (nI 0) ∧ f_X10_merges_89 τ m (nI b) FU Y (nI 0) = f_X10_merges_128 τ m (nI b) FU Y1 (nI 0) ∧ n1 ≤ 39 ∧ MI 0 (fun j => j < 56) n1 ch Lh Rh X0 X1 g Y0 Y1 m := by
  obtain ⟨N1, M1, X1, Y1, e1, e2, n1, i1, i2⟩ := up_loop2 (fun n s' k => f_X2_run_80 σ g s n s' (nI k)) (fun n t k => f_X10_merges_89 τ m (nI b) n t (nI k)) 20 (fun k x y => ∃ n1, n1 ≤ 19 + k ∧ MI 0 (fun j => j < 36 + k) n1 ch Lh Rh X0 x g Y0 y m) (by
    intro N1 M1 k x y hk ⟨n1, i1, i2⟩
    obtain ⟨x1, y1, v, n2, q1, q2, q3, q4, q5⟩ := row_rel hg hs hm hb hd hS0 hch hk i2 i1
    refine ⟨x1, if v = true then sI y1 m 21 (y1.1 m 21 ||| ((1 : Int32) <<< (nI k &&& 31))) else y1, ?_, ?_, n2, q3, q5⟩
    · show f_X2_run_80 σ g s (N1 + 1) x (nI k) = f_X2_run_80 σ g s N1 x1 (nI (k + 1))
      rw [f_X2_run_80]
      simp (disch := first | assumption | omega) only [litM, grd_t, grd_T, ldI_t, stI_t, ldA_t, stA_t, lenA_t, n_lt_t, n_lt_f, n_le_t, n_le_f, n_eq_t, n_eq_f, if_true, if_false, nI_add, nI_mul, bt_d, bI_z, bI_o, Option.bind_some, Bool.true_eq_false, Bool.false_eq_true, q1]
    · show f_X10_merges_89 τ m (nI b) (M1 + 1) y (nI k) = f_X10_merges_89 τ m (nI b) M1 _ (nI (k + 1))
      rw [f_X10_merges_89]
      have m0 := hm.1
      simp (disch := first | assumption | omega) only [litM, grd_t, grd_T, ldI_t, stI_t, ldA_t, stA_t, lenA_t, n_lt_t, n_lt_f, n_le_t, n_le_f, n_eq_t, n_eq_f, if_true, if_false, nI_add, nI_mul, bt_d, bI_z, bI_o, Option.bind_some, Bool.true_eq_false, Bool.false_eq_true, q2, bnd2, f_X10_merges_116]
      cases v with
      | false =>
        have e0 : y.1 m 21 ||| nI 0 = y1.1 m 21 := by rw [q4]; exact Int32.or_zero
        simp only [if_true, e0, sI_self]; rfl
      | true =>
        rw [if_neg (by decide), if_pos rfl, q4]) FU FU 0 X Y (by omega) ⟨n, by omega, h⟩ (by decide) (by decide)
  refine ⟨X1, Y1, n1, ?_, ?_, by omega, i2⟩
  · refine Eq.trans e1 ?_
    show f_X2_run_80 σ g s (N1 + 1) X1 (nI 20) = _
    rw [f_X2_run_80, if_pos (by decide)]; rfl
  · refine Eq.trans e2 ?_
    show f_X10_merges_89 τ m (nI b) (M1 + 1) Y1 (nI 20) = _
    rw [f_X10_merges_89, if_pos (by decide)]; rfl
