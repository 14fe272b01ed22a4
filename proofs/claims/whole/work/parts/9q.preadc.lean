/-! ===== reading: a line that tells a row ===== -/
theorem row204_d {σ τ : Sh} {X : Mx} {tp m e : Nat} {β : Nat → Nat} (hp : tpOK σ tp) (hm : mdOK τ m) (h : RdC X tp e β) (hf : ¬ X.1 tp 4 = nI 0) : ∃ X1, f_X7_readRow_204 σ tp X = some X1 ∧ CD X X1 tp e β := by
  obtain ⟨X1, b1, b2⟩ := semi_d hp hm h hf
  exact ⟨X1, by unfold f_X7_readRow_204; rw [b1, Option.bind_some], b2⟩
theorem row104_d {σ τ : Sh} {X : Mx} {tp m e N : Nat} {β : Nat → Nat} {x y : Int32} (hp : tpOK σ tp) (hm : mdOK τ m) (h : RdC X tp e β) (hf : ¬ X.1 tp 4 = nI 0) : ∃ X1, f_X7_readRow_104 σ tp x (N + 1) X y = some X1 ∧ CD X X1 tp e β := by
  obtain ⟨X1, b1, b2⟩ := row204_d hp hm h hf
  refine ⟨X1, ?_, b2⟩
  rw [f_X7_readRow_104]
  simp only [litM]
  rw [ldI_t hp.1, if_neg hf, b1]
  split <;> rfl
theorem row84_d {σ τ : Sh} {X : Mx} {tp m e : Nat} {β : Nat → Nat} {x : Int32} (hp : tpOK σ tp) (hm : mdOK τ m) (h : RdC X tp e β) (hf : ¬ X.1 tp 4 = nI 0) : ∃ X1, f_X7_readRow_84 σ tp x X = some X1 ∧ CD X X1 tp e β := by
  obtain ⟨M, hM⟩ : ∃ M, FU = M + 1 := ⟨39999, FU_40000⟩
  obtain ⟨X1, b1, b2⟩ := row104_d (N := M) (x := x) (y := nI 0) hp hm h hf
  refine ⟨X1, ?_, b2⟩
  unfold f_X7_readRow_84 f_X7_readRow_102
  simp only [litM]
  rw [ldI_t hp.1, if_neg hf, hM, b1]
theorem cnt_or {w : Int32} {k : Nat} (hk : k < 20) (h : bt w k = false) : cnt 20 (w ||| ((1 : Int32) <<< (nI k &&& 31))) = cnt 20 w + 1 := by
  rw [← cntB_cnt, ← cntB_cnt]
  refine cntB_upd hk (fun i _ hne => ?_) h ?_
  · rw [bt_set (by omega), decide_eq_false hne, Bool.or_false]
  · rw [bt_set (by omega), decide_eq_true rfl, Bool.or_true]
def RwI (Xb Yb : Mx) (tp m key ci : Nat) (X Y : Mx) : Prop := X.2 = Xb.2 ∧ (∀ r, r ≠ tp → r ≠ tp + 2 + 1 → r ≠ tp + 2 + 1 + 3 → X.1 r = Xb.1 r) ∧ (∀ j, j ≠ 3 → j ≠ 4 → j ≠ 6 → j ≠ 7 → j ≠ 8 → X.1 tp j = Xb.1 tp j) ∧ X.1 (tp + 2 + 1) 0 = Xb.1 (tp + 2 + 1) 0 ∧ X.1 (tp + 2 + 1) 1 = Xb.1 (tp + 2 + 1) 1 ||| ((1 : Int32) <<< (nI key &&& 31)) ∧ (∀ j, j < 180 → (j < 9 * key ∨ 9 * key + ci ≤ j) → X.1 (tp + 2 + 1 + 3) j = Xb.1 (tp + 2 + 1 + 3) j) ∧ (∀ c, c < ci → X.1 (tp + 2 + 1 + 3) (9 * key + c) = Y.1 (m + 3) (1351 + (9 * key + c))) ∧ (∀ r, r ≠ m → Y.2 r = Yb.2 r) ∧ (∀ r, r ≠ m → r ≠ m + 3 → Y.1 r = Yb.1 r) ∧ (∀ j, j ≠ 3 → j ≠ 4 → (j < 7 ∨ 12 < j) → Y.1 m j = Yb.1 m j) ∧ (∀ j, (j < 1351 + 9 * key ∨ 1360 + 9 * key ≤ j) → Y.1 (m + 3) j = Yb.1 (m + 3) j)
theorem RwI.tk {Xb Yb X Y X1 Y1 : Mx} {tp m key ci : Nat} (h : RwI Xb Yb tp m key ci X Y) (hx : TkF X X1 tp) (hy : MkF Y Y1 m) : RwI Xb Yb tp m key ci X1 Y1 := by
  obtain ⟨h1, h2, h3, h4, h5, h6, h7, h8, h9, h10, h11⟩ := h
  have e3 := hx.2.1 (tp + 2 + 1) (by omega)
  have e6 := hx.2.1 (tp + 2 + 1 + 3) (by omega)
  have f3 := hy.2.1 (m + 3) (by omega)
  refine ⟨hx.1.trans h1, fun r a b c => (hx.2.1 r a).trans (h2 r a b c), fun j a b c d e => (hx.2.2 j a b c d e).trans (h3 j a b c d e), by rw [e3]; exact h4, by rw [e3]; exact h5, by rw [e6]; exact h6, by rw [e6, f3]; exact h7, fun r a => (hy.1 r a).trans (h8 r a), fun r a b => (hy.2.1 r a).trans (h9 r a b), fun j a b c => (hy.2.2 j a b c).trans (h10 j a b c), by rw [f3]; exact h11⟩
theorem m_rd127_d {τ : Sh} {Y : Mx} {m : Nat} {x : Int32} (hm : mdOK τ m) (h : ¬ Y.1 m 3 = nI 0) : f_X10_readsRow_127 τ m x Y = some Y := by
  unfold f_X10_readsRow_127
  simp only [litM]
  rw [m_good_f hm h, Option.bind_some, if_pos rfl]
theorem m_rd45_d {τ : Sh} {Y : Mx} {m M : Nat} {x y : Int32} (hm : mdOK τ m) (h : ¬ Y.1 m 3 = nI 0) : f_X10_readsRow_45 τ m x (M + 1) Y y = some Y := by
  rw [f_X10_readsRow_45]
  simp only [litM]
  rw [ldI_t hm.1, m_good_f hm h, Option.bind_some, if_pos rfl, m_rd127_d hm h]
  split <;> rfl
theorem row_loop {σ τ : Sh} {Xb Yb : Mx} {tp m e key k nc nr d : Nat} {β : Nat → Nat} (hp : tpOK σ tp) (hm : mdOK τ m) (hkey : key < 20) (hB : BsR (sI Xb tp 9 (bI (decide (0 < nr)))) Yb tp m nc nr d) (h9 : Xb.1 tp 9 = nI 1) (hnr : nr < 12) (hbk : bt (Xb.1 (tp + 2 + 1) 1) key = false) : ∀ (r ci N M : Nat) (X Y : Mx) (st be : Nat), ci + r = nc → r + 1 < N → r + 1 < M → GdR X Y tp m e β st be → RwI Xb Yb tp m key ci X Y → LnR X Y tp m e β be k (f_X7_readRow_104 σ tp (nI key) N X (nI ci)) ((f_X10_readsRow_45 τ m (nI key) M Y (nI ci)).bind fun X5 => f_X10_line_188 τ m X5) := by
  have t0 := hp.1
  have t2 : shR σ tp 2 = some (tp + 2) := hp.2.2.1
  have m0 := hm.1
  have hS := told_sk hp
  have hT : tabOK σ (tp + 2 + 1) := hS.2.2.2.2.2.2.2.2.1
  have sb : ∀ r, r ≠ tp → (sI Xb tp 9 (bI (decide (0 < nr)))).1 r = Xb.1 r := fun r hr => sI_ne hr
  obtain ⟨⟨b0, b1, b2, b3, b4, b5, b6⟩, g1, g2, g3, g4, g5, g6, -, g8, g9, g10, g11, g12, g13, g14, g15, g16⟩ := id hB
  rw [sb _ (by omega)] at b0 b1 b2 b3 g1 g3
  rw [sb _ (by omega), sb _ (by omega), sb _ (by omega)] at b4
  rw [sb _ (by omega), sb _ (by omega)] at b5 b6
  rw [sb _ (by omega)] at g11
  rw [sI_nk (by omega)] at g8
  intro r
  induction r with
  | zero =>
    intro ci N M X Y st be hr hN hM hG hI
    obtain ⟨N, rfl⟩ : ∃ N', N = N' + 1 := ⟨N - 1, by omega⟩
    obtain ⟨M, rfl⟩ : ∃ N', M = N' + 1 := ⟨M - 1, by omega⟩
    obtain ⟨i1, i2, i3, i4, i5, i6, i7, i8, i9, i10, i11⟩ := id hI
    have ci5 : ci = nc := by omega
    subst ci5
    obtain ⟨Y4, hY4⟩ : ∃ Y4, Y4 = sI (sI Y (m + 3) 1332 (Y.1 (m + 3) 1332 ||| ((1 : Int32) <<< (nI key &&& 31)))) m 15 (nI (nr + 1)) := ⟨_, rfl⟩
    have y15 : Y.1 m 15 = nI nr := by rw [i10 15 (by omega) (by omega) (by omega)]; exact g6
    have e127 : f_X10_readsRow_127 τ m (nI key) Y = some Y4 := by
      have hg := m_good_t hm hG.2.2.2.2.1
      unfold f_X10_readsRow_127
      simp only [litM]
      rw [hg, Option.bind_some, if_neg (by decide)]
      obtain ⟨m0, m1, m2, m3, m4, m5, m6, m7, m8, m9, m10, m11, m12, m13, m14, m15, m16, m17, mq1, mq2, mq3, mq4, mq5, mq6, mq7, mq8, mq9, mq10, mq11, mq12, mq13, mq14, mq15, mq16, mq17, mn1, mn2, mn3, mn4, mn5, mn6, mn7, mn8, mn9, mn10, mn11, mn12, mn13, mn14, mn15, mn16, mn17⟩ := hm
      simp only [ldR, m0, m3, if_true, Option.bind_some]
      rw [ldA_t mq3 (by omega) (by omega), stA_t mq3 (by omega) (by omega), ldI_t m0, sI_na (by omega), y15, stI_t m0, nI_add, hY4]
      rfl
    have md : f_X10_readsRow_45 τ m (nI key) (M + 1) Y (nI ci) = some Y4 := by
      rw [f_X10_readsRow_45]
      rw [ldI_t m0, i10 14 (by omega) (by omega) (by omega), g5, if_pos (Int32.le_refl _), e127]
    have cl : f_X7_readRow_104 σ tp (nI key) (N + 1) X (nI ci) = f_X7_readRow_204 σ tp X := by
      rw [f_X7_readRow_104]
      simp only [litM]
      by_cases q : 5 ≤ ci
      · rw [if_pos (by rw [n_le (by omega) (by omega)]; exact q)]
      · rw [if_neg (by rw [n_le (by omega) (by omega)]; exact q), ldI_t t0, if_pos hG.2.2.2.1]
        simp only [ldR, t0, t2, hS.1, hS.2.1, if_true, Option.bind_some]
        rw [s_hasColumn hT, Option.bind_some, inB_n (by omega) (by omega), i4, g1, decide_eq_false (by omega), if_pos bI_f]
    have y4 : ∀ r, r ≠ m → r ≠ m + 3 → Y4.1 r = Y.1 r := fun r a b => by rw [hY4, sI_ne a, sI_ne b]
    have y4m : ∀ j, j ≠ 15 → Y4.1 m j = Y.1 m j := fun j a => by rw [hY4, sI_nk a, sI_na (by omega)]
    have y4r : ∀ j, j ≠ 1332 → Y4.1 (m + 3) j = Y.1 (m + 3) j := fun j a => by rw [hY4, sI_na (by omega), sI_nk a]
    have g4' : GdR X Y4 tp m e β st be := hG.fr rfl (fun _ _ _ => rfl) (y4 _ (by omega) (by omega)) (fun j hj => y4m j (by omega)) (by rw [hY4]; rfl)
    have lmY : LM Y Y4 m := ⟨fun _ _ => by rw [hY4]; rfl, y4, fun j hj => y4m j (by omega), fun j hj => y4r j (by omega)⟩
    have rows : ∀ c, bt (X.1 (tp + 2 + 1) 1) c = (bt (Xb.1 (tp + 2 + 1) 1) c || decide (c = key)) := fun c => by rw [i5, bt_set (by omega)]
    have hBn : BsR X Y4 tp m ci (nr + 1) d := by
      refine ⟨⟨?_, ?_, ?_, ?_, fun c hc hb => ?_, fun k c hk hc hbk hb => ?_, fun k c hk hc hab => ?_⟩, fun c => by rw [i4]; exact g1 c, g2, ?_, by omega, ?_, ?_, ?_, ?_, ?_, g10, ?_, ?_, fun i hi => ?_, ?_, ?_, fun i hi => ?_⟩
      · rw [i4, y4r _ (by omega), i11 _ (by omega)]; exact b0
      · rw [i5, hY4, sI_na (by omega)]
        show _ = (sI Y (m + 3) 1332 _).1 (m + 3) 1332
        rw [sI_eq, i11 1332 (by omega), b1]
      · rw [i4]; exact b2
      · rw [i5]; exact low_set b3 hkey (by omega)
      · rw [i4] at hb
        rw [i2 _ (by omega) (by omega) (by omega), i2 _ (by omega) (by omega) (by omega), y4r _ (by omega), y4r _ (by omega), i11 _ (by omega), i11 _ (by omega)]
        exact b4 c hc hb
      · rw [i4] at hb
        rw [y4r _ (by omega)]
        have hc5 : c < ci := by rw [g1] at hb; exact of_decide_eq_true hb
        by_cases q : k = key
        · subst q
          rw [i7 c hc5]
          exact congrArg (Y.1 (m + 3)) (by omega)
        · rw [rows, decide_eq_false q, Bool.or_false] at hbk
          rw [i6 _ (by omega) (by omega), i11 _ (by omega)]
          exact b5 k c hk hc hbk hb
      · rw [i4] at hab
        by_cases q : k = key
        · subst q
          have hcb : bt (Xb.1 (tp + 2 + 1) 0) c = false := by
            rcases hab with hab | hab
            · rw [rows, decide_eq_true rfl, Bool.or_true] at hab; cases hab
            · exact hab
          have hc5 : ¬ c < ci := by rw [g1] at hcb; exact of_decide_eq_false hcb
          rw [i6 _ (by omega) (by omega)]
          exact b6 k c hk hc (Or.inl hbk)
        · rw [rows, decide_eq_false q, Bool.or_false] at hab
          rw [i6 _ (by omega) (by omega)]
          exact b6 k c hk hc hab
      · rw [i5, cnt_or hkey hbk, g3]
      · rw [y4m 14 (by omega), i10 14 (by omega) (by omega) (by omega)]; exact g5
      · rw [hY4, sI_eq]
      · rw [i3 9 (by omega) (by omega) (by omega) (by omega) (by omega), h9, decide_eq_true (by omega)]; rfl
      · rw [i3 10 (by omega) (by omega) (by omega) (by omega) (by omega)]; exact g8
      · rw [y4m 16 (by omega), i10 16 (by omega) (by omega) (by omega)]; exact g9
      · rw [i2 _ (by omega) (by omega) (by omega)]; exact g11
      · rw [y4r _ (by omega), i11 _ (by omega)]; exact g12
      · obtain ⟨kd, f, q, r1, r2, r3, r4, r5, r6, r7, r8, r9, r10⟩ := g13 i hi
        rw [sb _ (by omega)] at r4 r5 r6
        exact ⟨kd, f, q, r1, r2, r3, by rw [i2 _ (by omega) (by omega) (by omega)]; exact r4, by rw [i2 _ (by omega) (by omega) (by omega)]; exact r5, by rw [i2 _ (by omega) (by omega) (by omega)]; exact r6, by rw [y4r _ (by omega), i11 _ (by omega)]; exact r7, by rw [y4r _ (by omega), i11 _ (by omega)]; exact r8, fun e => by rw [y4r _ (by omega), i11 _ (by omega)]; exact r9 e, r10⟩
      · rw [y4r _ (by omega), i11 _ (by omega)]; exact g14
      · rw [y4r _ (by omega), i11 _ (by omega)]; exact g15
      · rw [y4r _ (by omega), i11 _ (by omega)]; exact g16 i hi
    obtain ⟨X5, Y5, s1, s2, hs⟩ := semi_both hp hm g4'
    refine ⟨X5, Y5, by rw [cl]; unfold f_X7_readRow_204; rw [s1, Option.bind_some], by rw [md, Option.bind_some, s2], ?_⟩
    rcases hs with ⟨⟨s3, s4, st4, be4, s5, s6⟩, -⟩ | ⟨⟨s3, s4, s5⟩, -, -⟩
    · exact ⟨s3.lf, lmY.trans s4.lm, Or.inl ⟨st4, be4, by omega, s6, Or.inl ⟨ci, nr + 1, d, hBn.tk s3 s4⟩⟩⟩
    · exact ⟨s3.lf, lmY.trans s4.lm, Or.inr s5⟩
  | succ r ih =>
    intro ci N M X Y st be hr hN hM hG hI
    obtain ⟨N, rfl⟩ : ∃ N', N = N' + 1 := ⟨N - 1, by omega⟩
    obtain ⟨M, rfl⟩ : ∃ N', M = N' + 1 := ⟨M - 1, by omega⟩
    obtain ⟨i1, i2, i3, i4, i5, i6, i7, i8, i9, i10, i11⟩ := id hI
    obtain ⟨-, c2, tq, htq, c3⟩ := b4 ci (by omega) (by rw [g1]; exact decide_eq_true (by omega))
    have cl : f_X7_readRow_104 σ tp (nI key) (N + 1) X (nI ci) = bnd2 (f_X7_takeCell σ X tp) fun v9 X8 => (if X8.1 tp 4 = nI 0 then ldA σ X8 10 (tp + 2 + 1 + 2) (nI ci) fun v14 => (if (f_X8_holds v14 v9) = nI 0 then bnd2 (f_X7_fail σ X8 tp (nI 5) (X.1 tp 7)) fun v17 X16 => f_X7_readRow_177 (f_X7_readRow_104 σ tp (nI key) N) σ tp (nI key) (nI ci) v9 X16 else f_X7_readRow_177 (f_X7_readRow_104 σ tp (nI key) N) σ tp (nI key) (nI ci) v9 X8) else f_X7_readRow_177 (f_X7_readRow_104 σ tp (nI key) N) σ tp (nI key) (nI ci) v9 X8) := by
      obtain ⟨h1, h2, h3, h4, h5, h6, h7, h8, h9, h10⟩ := id hT
      rw [f_X7_readRow_104]
      simp only [litM]
      rw [if_neg (by rw [n_le (by omega) (by omega)]; omega), ldI_t t0, if_pos hG.2.2.2.1]
      simp only [ldR, t0, t2, hS.1, hS.2.1, h1, h3, if_true, Option.bind_some]
      rw [s_hasColumn hT, Option.bind_some, inB_n (by omega) (by omega), i4, g1, decide_eq_true (by omega), if_neg (by decide), ldI_t t0]
      refine congrArg (fun z => bnd2 (f_X7_takeCell σ X tp) z) (funext fun v9 => funext fun X8 => ?_)
      rw [ldI_t t0]
    have md : f_X10_readsRow_45 τ m (nI key) (M + 1) Y (nI ci) = bnd2 (f_X10_cellOf τ Y m) fun v7 X6 => (f_X10_isGood τ X6 m).bind fun v9 => (if v9 = nI 0 then f_X10_readsRow_105 (f_X10_readsRow_45 τ m (nI key) M) τ m (nI key) (nI ci) v7 X6 else (f_X10_typeAt τ X6 m (nI 931) (nI 2) (nI ci)).bind fun v11 => (f_X10_doesHold v11 v7).bind fun v13 => (if v13 = nI 0 then (f_X10_wrong τ X6 m (nI 5)).bind fun X15 => stI τ X15 8 m 4 (Y.1 m 9) fun X16 => f_X10_readsRow_105 (f_X10_readsRow_45 τ m (nI key) M) τ m (nI key) (nI ci) v7 X16 else f_X10_readsRow_105 (f_X10_readsRow_45 τ m (nI key) M) τ m (nI key) (nI ci) v7 X6)) := by
      rw [f_X10_readsRow_45]
      simp only [litM]
      rw [ldI_t m0, i10 14 (by omega) (by omega) (by omega), g5, if_neg (by rw [n_le (by omega) (by omega)]; omega), m_good_t hm hG.2.2.2.2.1, Option.bind_some, if_neg (by decide), ldI_t m0]
    have r105 : ∀ (Yq : Mx) (v : Int32), f_X10_readsRow_105 (f_X10_readsRow_45 τ m (nI key) M) τ m (nI key) (nI ci) v Yq = f_X10_readsRow_45 τ m (nI key) M (sI Yq (m + 3) (1351 + (9 * key + ci)) v) (nI (ci + 1)) := fun Yq v => by
      obtain ⟨m0, m1, m2, m3, m4, m5, m6, m7, m8, m9, m10, m11, m12, m13, m14, m15, m16, m17, mq1, mq2, mq3, mq4, mq5, mq6, mq7, mq8, mq9, mq10, mq11, mq12, mq13, mq14, mq15, mq16, mq17, mn1, mn2, mn3, mn4, mn5, mn6, mn7, mn8, mn9, mn10, mn11, mn12, mn13, mn14, mn15, mn16, mn17⟩ := hm
      unfold f_X10_readsRow_105
      simp only [litM]
      simp only [ldR, m0, m3, if_true, Option.bind_some]
      rw [s10_cellAt, show 931 + 200 * 2 + 20 + 9 * key + ci = 1351 + (9 * key + ci) by omega, stA_t mq3 (by omega) (by omega), nI_add]
    obtain ⟨M', hM'⟩ : ∃ M', M = M' + 1 := ⟨M - 1, by omega⟩
    obtain ⟨N', hN'⟩ : ∃ N', N = N' + 1 := ⟨N - 1, by omega⟩
    have lmc : ∀ (Yq : Mx) (v : Int32), LM Yq (sI Yq (m + 3) (1351 + (9 * key + ci)) v) m := fun Yq v => ⟨fun _ _ => rfl, fun r _ b => sI_ne b, fun j _ => sI_na (by omega), fun j hj => sI_nk (by omega)⟩
    -- behind a fault here
    have dead : ∀ (Xd Yd : Mx) (v u : Int32), DdR Xd Yd tp m e β → LF X Xd tp → LM Y Yd m → LnR X Y tp m e β be k (f_X7_readRow_177 (f_X7_readRow_104 σ tp (nI key) N) σ tp (nI key) (nI ci) v Xd) ((f_X10_readsRow_105 (f_X10_readsRow_45 τ m (nI key) M) τ m (nI key) (nI ci) u Yd).bind fun X5 => f_X10_line_188 τ m X5) := by
      intro Xd Yd v u hd hx hy
      obtain ⟨X2, q1, q2⟩ := row104_d (N := N') (x := nI key) (y := nI (ci + 1)) hp hm hd.1 hd.nx
      have ny : ¬ (sI Yd (m + 3) (1351 + (9 * key + ci)) u).1 m 3 = nI 0 := by rw [sI_na (by omega)]; exact hd.ny
      refine ⟨X2, sI Yd (m + 3) (1351 + (9 * key + ci)) u, ?_, ?_, hx.trans q2.1.lf, hy.trans (lmc Yd u), Or.inr ?_⟩
      · unfold f_X7_readRow_177 f_X7_readRow_198
        simp only [litM]
        rw [ldI_t t0, if_neg hd.nx, nI_add, hN', q1]
      · rw [r105, hM', m_rd45_d hm ny, Option.bind_some, line188_d hm ny]
      · obtain ⟨d1, f, d2, d3, d4, d5, d6⟩ := hd.cd q2
        exact ⟨d1, f, d2, d3, d4, by rw [sI_na (by omega)]; exact d5, by rw [sI_na (by omega)]; exact d6⟩
    rw [cl, md]
    rcases cell_both hp hm hG with ⟨v, X1, Y1, a1, a2, a3, a4, st1, be1, a5, a6⟩ | ⟨v, u, X1, Y1, a1, a2, a3, a4, a5⟩
    · have hI1 := hI.tk a3 a4
      obtain ⟨j1, j2, j3, j4, j5, j6, j7, j8, j9, j10, j11⟩ := id hI1
      have r1 := a6.2.2.2.2.2.1
      have ty : X1.1 (tp + 2 + 1 + 2) ci = nI tq := by rw [j2 _ (by omega) (by omega) (by omega)]; exact c3
      have ty' : f_X10_typeAt τ Y1 m (nI 931) (nI 2) (nI ci) = some (nI tq) := by
        rw [s10_typeAt hm (by omega) (by omega) (by omega), j11 _ (by omega), ← c2, c3]
      have hN2 : shN σ (tp + 2 + 1 + 2) = 9 := by obtain ⟨h1, h2, h3, h4, h5, h6, h7, h8, h9, h10⟩ := id hT; exact h8
      have hK2 : shK σ (tp + 2 + 1 + 2) = 10 := by obtain ⟨h1, h2, h3, h4, h5, h6, h7, h8, h9, h10⟩ := id hT; exact h7
      rw [a1, bnd2_k, if_pos a6.2.2.2.1, ldA_t hK2 (by omega) (by omega), ty, a2, bnd2_k, m_good_t hm a6.2.2.2.2.1, Option.bind_some, if_neg (show ¬ nI 1 = nI 0 by decide), ty', Option.bind_some, holds_eq _ htq, Option.bind_some]
      by_cases qh : f_X8_holds (nI tq) v = nI 0
      · rw [if_pos qh, if_pos qh, c_fail_g hp a6.2.2.2.1, bnd2_k, m_wrong_g hm a6.2.2.2.2.1, Option.bind_some, stI_t m0]
        refine dead _ _ v v ?_ (a3.trans TkF.die).lf ?_
        · obtain ⟨d1, f, d2, d3, d4, d5, d6⟩ := GdR.die (Y := Y1) (m := m) (st := st1) (be := be1) (f := 5) (p := X.1 tp 7) a6.rd (by omega) (by omega)
          refine ⟨d1, f, d2, d3, d4, ?_, ?_⟩
          · rw [sI_nk (by omega), sI_nk (by omega)]
            rw [sI_nk (by omega)] at d5; exact d5
          · rw [sI_eq, sI_eq, hG.2.2.2.2.2.2.2.1, hG.2.2.2.2.2.2.2.2.2.1]
        · refine a4.lm.trans ⟨fun _ _ => rfl, fun r a b => by rw [sI_ne a, sI_ne a, sI_ne a], fun j hj => by rw [sI_nk (by omega), sI_nk (by omega), sI_nk (by omega)], fun j hj => by rw [sI_na (by omega), sI_na (by omega), sI_na (by omega)]⟩
      · rw [if_neg qh, if_neg qh]
        have c177 : f_X7_readRow_177 (f_X7_readRow_104 σ tp (nI key) N) σ tp (nI key) (nI ci) v X1 = f_X7_readRow_104 σ tp (nI key) N (sI X1 (tp + 2 + 1 + 3) (9 * key + ci) v) (nI (ci + 1)) := by
          unfold f_X7_readRow_177 f_X7_readRow_198
          simp only [litM]
          rw [ldI_t t0, if_pos a6.2.2.2.1]
          simp only [ldR, t0, t2, hS.1, hS.2.1, if_true, Option.bind_some]
          rw [s_putNumber hT hkey (by omega), Option.bind_some, nI_add]
        rw [c177, r105]
        have fin := ih (ci + 1) N M (sI X1 (tp + 2 + 1 + 3) (9 * key + ci) v) (sI Y1 (m + 3) (1351 + (9 * key + ci)) v) st1 be1 (by omega) (by omega) (by omega) (a6.fr (sI_ne (by omega)) (fun j _ _ => sI_na (by omega)) (sI_ne (by omega)) (fun j _ => sI_na (by omega)) rfl) (by
          refine ⟨j1, fun r a b c => by rw [sI_ne c]; exact j2 r a b c, fun j a b c d e => by rw [sI_na (by omega)]; exact j3 j a b c d e, by rw [sI_na (by omega)]; exact j4, by rw [sI_na (by omega)]; exact j5, fun j hj hn => by rw [sI_nk (by omega)]; exact j6 j hj (by omega), fun c hc => ?_, j8, fun r a b => by rw [sI_ne b]; exact j9 r a b, fun j a b c => by rw [sI_na (by omega)]; exact j10 j a b c, fun j hj => by rw [sI_nk (by omega)]; exact j11 j hj⟩
          by_cases e : c = ci
          · rw [e, sI_eq, sI_eq]
          · rw [sI_nk (by omega), sI_nk (by omega)]; exact j7 c (by omega))
        obtain ⟨X2, Y2, f1, f2, f3, f4, f5⟩ := fin
        have lx : LF X1 (sI X1 (tp + 2 + 1 + 3) (9 * key + ci) v) tp := ⟨rfl, fun r a b => sI_ne (by omega), sI_na (by omega)⟩
        refine ⟨X2, Y2, f1, f2, (a3.lf.trans lx).trans f3, (a4.lm.trans (lmc Y1 v)).trans f4, ?_⟩
        rcases f5 with ⟨s, b, f6, f7⟩ | f5
        · exact Or.inl ⟨s, b, by omega, f7⟩
        · exact Or.inr f5
    · rw [a1, bnd2_k, if_neg a5.nx, a2, bnd2_k, m_good_f hm a5.ny, Option.bind_some, if_pos rfl]
      exact dead X1 Y1 v u a5 a3.lf a4.lm
