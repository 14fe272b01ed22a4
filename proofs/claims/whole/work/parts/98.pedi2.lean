theorem num_ok : (nI 0 - nI 9 = -(nI 9)) ∧ nI 9 < nI 19 - nI 9 ∧ nI 10 ≤ nI 19 - nI 9 ∧ ∀ j, j < 19 → (nI j - nI 9) + nI 1 = nI (j + 1) - nI 9 ∧ ¬ (nI 9 < nI j - nI 9) ∧ ¬ (nI 10 ≤ nI j - nI 9) := by decide +kernel
abbrev St3 := Mx × Int32 × Int32
theorem ed_cell {σ τ : Sh} {X0 Y0 X Y : Mx} {q m s L R n k c w : Nat} {x3 wy fs : Int32} {k48 k58 : Mx → Int32 → Int32 → Int32 → Option Mx} {k42 k52 : Mx → Int32 → Int32 → Int32 → Option (Int32 × Mx)} (hq : quOK σ q) (hs : stOK σ s L R) (hd : s + 16 < q) (hn : snOK σ n) (hdn : n + 3 < q) (hm : mdOK τ m) (hS : StR X0.1 s L R (Y0.1 (m + 3)) 0) (hW : SeenW X0.1 n Y0.1 m) (hk : k < 20) (hc : c < 9) (bk : bt (X0.1 R 1) k = true) (bc : bt (X0.1 R 0) c = true) (h : EdI X0 Y0 q m s L R X Y) :
    ∃ X1 Y1 wy1 fs1, f_X3_findEdited_96 k48 k58 σ q s n x3 (nI k) (nI c) FU X wy fs (-(nI 9)) = k58 X1 wy1 fs1 (nI (c + 1)) ∧ f_X10_edited_87 k42 k52 τ m (nI w) (nI k) (nI c) FU Y wy fs (-(nI 9)) = k52 Y1 wy1 fs1 (nI (c + 1)) ∧ EdI X0 Y0 q m s L R X1 Y1 := by
  obtain ⟨o1, o2, o3, o4⟩ := num_ok
  obtain ⟨n1, n2, ⟨S, wy1, fs1⟩, ⟨T, wy2, fs2⟩, eF, eG, g1, g2⟩ := up_loop2 (fun N (S : St3) j => f_X3_findEdited_96 k48 k58 σ q s n x3 (nI k) (nI c) N S.1 S.2.1 S.2.2 (nI j - nI 9)) (fun N (T : St3) j => f_X10_edited_87 k42 k52 τ m (nI w) (nI k) (nI c) N T.1 T.2.1 T.2.2 (nI j - nI 9)) 19 (fun _ S T => S.2 = T.2 ∧ EdI X0 Y0 q m s L R S.1 T.1) (by
    rintro N M j ⟨S, wy, fs⟩ ⟨T, wy', fs'⟩ hj ⟨e, hI⟩
    cases e
    obtain ⟨ok, S1, T1, f1, f2, f3⟩ := ed_num (x := nI j - nI 9) hq hs hd hn hdn hm hS hW hk hc bk bc hI
    obtain ⟨p1, p2, p3⟩ := o4 j hj
    refine ⟨(S1, if ok = true then wy + nI 1 else wy, if ok = true then (if fs = -(nI 1) then nI 1000 * nI k + nI 100 * nI c + (nI j - nI 9) + nI 50 else fs) else fs), (T1, if ok = true then wy + nI 1 else wy, if ok = true then (if fs = -(nI 1) then nI 1000 * nI k + nI 100 * nI c + (nI j - nI 9) + nI 50 else fs) else fs), ?_, ?_, rfl, f2⟩
    · show f_X3_findEdited_96 k48 k58 σ q s n x3 (nI k) (nI c) (N + 1) S wy fs (nI j - nI 9) = f_X3_findEdited_96 k48 k58 σ q s n x3 (nI k) (nI c) N S1 _ _ (nI (j + 1) - nI 9)
      rw [f_X3_findEdited_96]
      unfold f_X3_findEdited_150 f_X3_findEdited_152
      simp only [litM]
      rw [if_neg p2, f1, bnd2_k, p1]
      cases ok with
      | false => rfl
      | true =>
        rw [if_neg (by decide), if_pos rfl, if_pos rfl]
        by_cases e : fs = -(nI 1)
        · rw [if_pos e, if_pos e]
        · rw [if_neg e, if_neg e]
    · show f_X10_edited_87 k42 k52 τ m (nI w) (nI k) (nI c) (M + 1) T wy fs (nI j - nI 9) = f_X10_edited_87 k42 k52 τ m (nI w) (nI k) (nI c) M T1 _ _ (nI (j + 1) - nI 9)
      rw [f_X10_edited_87]
      unfold f_X10_edited_155
      simp only [litM]
      rw [if_neg p3]
      refine Eq.trans (f3 _ (fun X4 => f_X10_edited_87 k42 k52 τ m (nI w) (nI k) (nI c) M X4 wy fs ((nI j - nI 9) + nI 1)) (fun X7 => if fs = -(nI 1) then f_X10_edited_87 k42 k52 τ m (nI w) (nI k) (nI c) M X7 (wy + nI 1) (nI 1000 * nI k + nI 100 * nI c + (nI j - nI 9) + nI 50) ((nI j - nI 9) + nI 1) else f_X10_edited_87 k42 k52 τ m (nI w) (nI k) (nI c) M X7 (wy + nI 1) fs ((nI j - nI 9) + nI 1))) ?_
      rw [p1]
      cases ok with
      | false => rfl
      | true =>
        rw [if_pos rfl, if_pos rfl, if_pos rfl]
        by_cases e : fs = -(nI 1)
        · rw [if_pos e, if_pos e]
        · rw [if_neg e, if_neg e]) FU FU 0 (X, wy, fs) (Y, wy, fs) (by omega) ⟨rfl, h⟩ (by rw [FU_40000]; omega) (by rw [FU_40000]; omega)
  cases g1
  refine ⟨S, T, wy1, fs1, ?_, ?_, g2⟩
  · rw [← o1]
    refine Eq.trans eF ?_
    show f_X3_findEdited_96 k48 k58 σ q s n x3 (nI k) (nI c) (n1 + 1) S wy1 fs1 (nI 19 - nI 9) = _
    rw [f_X3_findEdited_96]
    refine Eq.trans (if_pos o2) ?_
    unfold f_X3_findEdited_158
    simp only [litM, nI_add]
  · rw [← o1]
    refine Eq.trans eG ?_
    show f_X10_edited_87 k42 k52 τ m (nI w) (nI k) (nI c) (n2 + 1) T wy1 fs1 (nI 19 - nI 9) = _
    rw [f_X10_edited_87]
    refine Eq.trans (if_pos o3) ?_
    unfold f_X10_edited_161
    simp only [litM, nI_add]
theorem ed_none {τ : Sh} {X0 Y0 X Y : Mx} {q m s L R k c w : Nat} {wy fs : Int32} {k42 k52 : Mx → Int32 → Int32 → Int32 → Option (Int32 × Mx)} (hm : mdOK τ m) (hS : StR X0.1 s L R (Y0.1 (m + 3)) 0) (hk : k < 20) (hc : c < 9) (hb : bt (X0.1 R 1) k = false ∨ bt (X0.1 R 0) c = false) (h : EdI X0 Y0 q m s L R X Y) :
    ∃ Y1, f_X10_edited_87 k42 k52 τ m (nI w) (nI k) (nI c) FU Y wy fs (-(nI 9)) = k52 Y1 wy fs (nI (c + 1)) ∧ EdI X0 Y0 q m s L R X Y1 := by
  obtain ⟨o1, o2, o3, o4⟩ := num_ok
  obtain ⟨n2, T, eG, g2⟩ := up_loop (fun N (T : Mx) j => f_X10_edited_87 k42 k52 τ m (nI w) (nI k) (nI c) N T wy fs (nI j - nI 9)) 19 (fun _ T => EdI X0 Y0 q m s L R X T) (by
    intro N j T hj hI
    obtain ⟨p1, p2, p3⟩ := o4 j hj
    obtain ⟨hC, hF, hQ, h0⟩ := hI
    obtain ⟨Y2, hY2⟩ : ∃ Y2, Y2 = wF T (m + 3) (fun j => if 931 ≤ j ∧ j < 931 + 931 then T.1 (m + 3) (0 + (j - 931)) else T.1 (m + 3) j) := ⟨_, rfl⟩
    have e2 : f_X10_tries τ T m = some Y2 := by rw [hY2]; exact s10_tries hm
    have y2a : ∀ j, j < 931 → Y2.1 (m + 3) j = T.1 (m + 3) j := fun j hj => by rw [hY2, wF_at, if_neg (by omega)]
    have y2b : ∀ j, j < 931 → Y2.1 (m + 3) (931 + j) = Y0.1 (m + 3) j := fun j hj => by rw [hY2, wF_at, if_pos (by omega), Nat.zero_add, Nat.add_sub_cancel_left]; exact hQ.2.2.2 j hj
    have y2q : ∀ p, p ≠ m + 3 → Y2.1 p = T.1 p := fun p hp => by rw [hY2, wF_fn hp]
    have f2 : FrQ T Y2 m := FrQ.of3 (by rw [hY2]; rfl) y2q y2a
    have hT := hS.2.1
    have b0 : Y2.1 (m + 3) (931 + 200 * 1) = X0.1 R 0 := (y2b 200 (by omega)).trans hT.1.symm
    have b1 : Y2.1 (m + 3) (931 + 200 * 1 + 1) = X0.1 R 1 := (y2b 201 (by omega)).trans hT.2.1.symm
    refine ⟨Y2, ?_, hC, hF, hQ.trans f2, by rw [y2q m (by omega)]; exact h0⟩
    show f_X10_edited_87 k42 k52 τ m (nI w) (nI k) (nI c) (N + 1) T wy fs (nI j - nI 9) = f_X10_edited_87 k42 k52 τ m (nI w) (nI k) (nI c) N Y2 wy fs (nI (j + 1) - nI 9)
    have es : f_X10_sets τ Y2 m (nI 931) (nI 1) (nI k) (nI c) (nI j - nI 9) = some (nI 0, Y2) := by
      unfold f_X10_sets
      simp only [litM]
      rw [grd_t hm.1, s10_hasRow hm (by omega) (by omega), b1, inB_n hk (by omega), Option.bind_some]
      rcases hb with hb | hb
      · rw [hb, if_pos bI_f]
      · cases bt (X0.1 R 1) k with
        | false => rw [if_pos bI_f]
        | true => rw [if_neg (by decide), s10_hasColumn hm (by omega) (by omega), b0, inB_n hc (by omega), hb, Option.bind_some, if_pos bI_f]
    rw [f_X10_edited_87]
    unfold f_X10_edited_155
    simp only [litM]
    rw [if_neg p3, e2, Option.bind_some]
    refine Eq.trans (congrArg (fun z => bnd2 z _) es) ?_
    rw [bnd2_k, if_pos rfl, p1]) FU 0 Y (by omega) h (by rw [FU_40000]; omega)
  refine ⟨T, ?_, g2⟩
  rw [← o1]
  refine Eq.trans eG ?_
  show f_X10_edited_87 k42 k52 τ m (nI w) (nI k) (nI c) (n2 + 1) T wy fs (nI 19 - nI 9) = _
  rw [f_X10_edited_87]
  refine Eq.trans (if_pos o3) ?_
  unfold f_X10_edited_161
  simp only [litM, nI_add]
theorem ed_row {σ τ : Sh} {X0 Y0 X Y : Mx} {q m s L R n k w : Nat} {x3 wy fs : Int32} {k48 : Mx → Int32 → Int32 → Int32 → Option Mx} {k42 : Mx → Int32 → Int32 → Int32 → Option (Int32 × Mx)} (hq : quOK σ q) (hs : stOK σ s L R) (hd : s + 16 < q) (hn : snOK σ n) (hdn : n + 3 < q) (hm : mdOK τ m) (hS : StR X0.1 s L R (Y0.1 (m + 3)) 0) (hW : SeenW X0.1 n Y0.1 m) (hk : k < 20) (h : EdI X0 Y0 q m s L R X Y) :
    ∃ X1 Y1 wy1 fs1, f_X3_findEdited_58 k48 σ q s n x3 (nI k) FU X wy fs (nI 0) = k48 X1 wy1 fs1 (nI (k + 1)) ∧ f_X10_edited_52 k42 τ m (nI w) (nI k) FU Y wy fs (nI 0) = k42 Y1 wy1 fs1 (nI (k + 1)) ∧ EdI X0 Y0 q m s L R X1 Y1 := by
  obtain ⟨n1, n2, ⟨S, wy1, fs1⟩, ⟨T, wy2, fs2⟩, eF, eG, g1, g2⟩ := up_loop2 (fun N (S : St3) c => f_X3_findEdited_58 k48 σ q s n x3 (nI k) N S.1 S.2.1 S.2.2 (nI c)) (fun N (T : St3) c => f_X10_edited_52 k42 τ m (nI w) (nI k) N T.1 T.2.1 T.2.2 (nI c)) 5 (fun _ S T => S.2 = T.2 ∧ EdI X0 Y0 q m s L R S.1 T.1) (by
    rintro N M c ⟨S, wy, fs⟩ ⟨T, wy', fs'⟩ hc ⟨e, hI⟩
    cases e
    obtain ⟨hC, hF, hQ, h0⟩ := id hI
    have lr := hs.lr
    have sq : ∀ p, p < q → S.1 p = X0.1 p := fun p hp => hF.2.1 p (by omega)
    have tB : tabOK σ (s + 1) := hs.2.2.2.2.2.2.2.2.1
    have tR : tabOK σ R := hs.2.2.2.2.2.2.2.2.2.2.1
    have b0 : T.1 (m + 3) (0 + 200 * 2) = X0.1 (s + 1) 0 := (hQ.2.2.2 400 (by omega)).trans hS.2.2.1.1.symm
    have b1 : T.1 (m + 3) (0 + 200 * 2 + 1) = X0.1 (s + 1) 1 := (hQ.2.2.2 401 (by omega)).trans hS.2.2.1.2.1.symm
    have hcl : f_X3_findEdited_58 k48 σ q s n x3 (nI k) (N + 1) S wy fs (nI c) = (if (bt (X0.1 (s + 1) 1) k && bt (X0.1 (s + 1) 0) c) = true then (if (bt (X0.1 R 1) k && bt (X0.1 R 0) c) = true then f_X3_findEdited_96 k48 (f_X3_findEdited_58 k48 σ q s n x3 (nI k) N) σ q s n x3 (nI k) (nI c) FU S wy fs (-(nI 9)) else f_X3_findEdited_58 k48 σ q s n x3 (nI k) N S wy fs (nI (c + 1))) else f_X3_findEdited_58 k48 σ q s n x3 (nI k) N S wy fs (nI (c + 1))) := by
      rw [f_X3_findEdited_58]
      unfold f_X3_findEdited_158
      simp only [litM]
      rw [if_neg (by rw [n_le (by omega) (by omega)]; omega)]
      simp only [ldR, hs.1, hs.2.1, hs.2.2.2.1, if_true, Option.bind_some]
      rw [s_hasCell tB, s_hasCell tR, inB_n hk (by omega), inB_n (show c < 9 by omega) (by omega), inB_n hk (by omega), inB_n (show c < 9 by omega) (by omega), sq (s + 1) (by omega), sq R (by omega), Option.bind_some, Option.bind_some, ifI, ifI, nI_add]
    have hmd : f_X10_edited_52 k42 τ m (nI w) (nI k) (M + 1) T wy fs (nI c) = (if (bt (X0.1 (s + 1) 1) k && bt (X0.1 (s + 1) 0) c) = true then f_X10_edited_87 k42 (f_X10_edited_52 k42 τ m (nI w) (nI k) M) τ m (nI w) (nI k) (nI c) FU T wy fs (-(nI 9)) else f_X10_edited_52 k42 τ m (nI w) (nI k) M T wy fs (nI (c + 1))) := by
      rw [f_X10_edited_52]
      unfold f_X10_edited_161
      simp only [litM]
      rw [if_neg (by rw [n_le (by omega) (by omega)]; omega), s10_hasRow hm (by omega) (by omega), b1, inB_n hk (by omega), Option.bind_some, s10_hasColumn hm (by omega) (by omega), b0, inB_n (show c < 9 by omega) (by omega), Option.bind_some, nI_add]
      cases bt (X0.1 (s + 1) 1) k <;> cases bt (X0.1 (s + 1) 0) c <;> rfl
    cases eb : bt (X0.1 (s + 1) 1) k && bt (X0.1 (s + 1) 0) c with
    | false =>
      rw [eb, if_neg (by decide)] at hcl hmd
      exact ⟨(S, wy, fs), (T, wy, fs), hcl, hmd, rfl, hI⟩
    | true =>
      rw [eb, if_pos rfl] at hcl hmd
      cases er : bt (X0.1 R 1) k && bt (X0.1 R 0) c with
      | false =>
        rw [er, if_neg (by decide)] at hcl
        have hb : bt (X0.1 R 1) k = false ∨ bt (X0.1 R 0) c = false := by
          cases e1 : bt (X0.1 R 1) k with
          | false => exact Or.inl rfl
          | true => rw [e1, Bool.true_and] at er; exact Or.inr er
        obtain ⟨T1, f1, f2⟩ := ed_none (k42 := k42) (k52 := f_X10_edited_52 k42 τ m (nI w) (nI k) M) (w := w) (wy := wy) (fs := fs) hm hS hk (show c < 9 by omega) hb hI
        exact ⟨(S, wy, fs), (T1, wy, fs), hcl, hmd.trans f1, rfl, f2⟩
      | true =>
        rw [er, if_pos rfl] at hcl
        have hb := Bool.and_eq_true_iff.mp er
        obtain ⟨S1, T1, wy1, fs1, f1, f2, f3⟩ := ed_cell (k48 := k48) (k58 := f_X3_findEdited_58 k48 σ q s n x3 (nI k) N) (k42 := k42) (k52 := f_X10_edited_52 k42 τ m (nI w) (nI k) M) (w := w) (x3 := x3) (wy := wy) (fs := fs) hq hs hd hn hdn hm hS hW hk (show c < 9 by omega) hb.1 hb.2 hI
        exact ⟨(S1, wy1, fs1), (T1, wy1, fs1), hcl.trans f1, hmd.trans f2, rfl, f3⟩) FU FU 0 (X, wy, fs) (Y, wy, fs) (by omega) ⟨rfl, h⟩ (by rw [FU_40000]; omega) (by rw [FU_40000]; omega)
  cases g1
  refine ⟨S, T, wy1, fs1, ?_, ?_, g2⟩
  · refine Eq.trans eF ?_
    show f_X3_findEdited_58 k48 σ q s n x3 (nI k) (n1 + 1) S wy1 fs1 (nI 5) = _
    rw [f_X3_findEdited_58]
    refine Eq.trans (if_pos (Int32.le_refl _)) ?_
    simp only [litM, nI_add]
  · refine Eq.trans eG ?_
    show f_X10_edited_52 k42 τ m (nI w) (nI k) (n2 + 1) T wy1 fs1 (nI 5) = _
    rw [f_X10_edited_52]
    refine Eq.trans (if_pos (Int32.le_refl _)) ?_
    simp only [litM, nI_add]
theorem ed_all {σ τ : Sh} {X0 Y0 X Y : Mx} {q m s L R n w : Nat} {x3 wy fs : Int32} (hq : quOK σ q) (hs : stOK σ s L R) (hd : s + 16 < q) (hn : snOK σ n) (hdn : n + 3 < q) (hm : mdOK τ m) (hS : StR X0.1 s L R (Y0.1 (m + 3)) 0) (hW : SeenW X0.1 n Y0.1 m) (hw : w < 2) (h : EdI X0 Y0 q m s L R X Y) :
    ∃ X1 Y1 wy1 fs1, f_X3_findEdited_48 σ q s n x3 FU X wy fs (nI 0) = f_X3_keepAnswer σ X1 q (nI 5) wy1 fs1 x3 ∧ f_X10_edited_42 τ m (nI w) FU Y wy fs (nI 0) = some (if w = 0 then wy1 else fs1, Y1) ∧ EdI X0 Y0 q m s L R X1 Y1 := by
  obtain ⟨n1, n2, ⟨S, wy1, fs1⟩, ⟨T, wy2, fs2⟩, eF, eG, g1, g2⟩ := up_loop2 (fun N (S : St3) k => f_X3_findEdited_48 σ q s n x3 N S.1 S.2.1 S.2.2 (nI k)) (fun N (T : St3) k => f_X10_edited_42 τ m (nI w) N T.1 T.2.1 T.2.2 (nI k)) 20 (fun _ S T => S.2 = T.2 ∧ EdI X0 Y0 q m s L R S.1 T.1) (by
    rintro N M k ⟨S, wy, fs⟩ ⟨T, wy', fs'⟩ hk ⟨e, hI⟩
    cases e
    obtain ⟨S1, T1, wy1, fs1, f1, f2, f3⟩ := ed_row (k48 := f_X3_findEdited_48 σ q s n x3 N) (k42 := f_X10_edited_42 τ m (nI w) M) (w := w) (x3 := x3) (wy := wy) (fs := fs) hq hs hd hn hdn hm hS hW hk hI
    refine ⟨(S1, wy1, fs1), (T1, wy1, fs1), ?_, ?_, rfl, f3⟩
    · refine Eq.trans ?_ f1
      show f_X3_findEdited_48 σ q s n x3 (N + 1) S wy fs (nI k) = _
      rw [f_X3_findEdited_48]
      simp only [litM]
      rw [if_neg (by rw [n_le (by omega) (by omega)]; omega)]
    · refine Eq.trans ?_ f2
      show f_X10_edited_42 τ m (nI w) (M + 1) T wy fs (nI k) = _
      rw [f_X10_edited_42]
      simp only [litM]
      rw [if_neg (by rw [n_le (by omega) (by omega)]; omega)]) FU FU 0 (X, wy, fs) (Y, wy, fs) (by omega) ⟨rfl, h⟩ (by rw [FU_40000]; omega) (by rw [FU_40000]; omega)
  cases g1
  refine ⟨S, T, wy1, fs1, ?_, ?_, g2⟩
  · refine Eq.trans eF ?_
    show f_X3_findEdited_48 σ q s n x3 (n1 + 1) S wy1 fs1 (nI 20) = _
    rw [f_X3_findEdited_48]
    refine Eq.trans (if_pos (Int32.le_refl _)) ?_
    simp only [litM]
    cases f_X3_keepAnswer σ S q (nI 5) wy1 fs1 x3 <;> rfl
  · refine Eq.trans eG ?_
    show f_X10_edited_42 τ m (nI w) (n2 + 1) T wy1 fs1 (nI 20) = _
    rw [f_X10_edited_42]
    refine Eq.trans (if_pos (Int32.le_refl _)) ?_
    simp only [litM]
    rcases (show w = 0 ∨ w = 1 by omega) with rfl | rfl
    · rfl
    · rfl
