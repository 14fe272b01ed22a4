/-! ===== reading: a line that tells what must be so ===== -/
theorem dmd_both {σ τ : Sh} {X Y : Mx} {tp m e st be nc nr d : Nat} {β : Nat → Nat} {u : Int32} (hp : tpOK σ tp) (hm : mdOK τ m) (h : GdR X Y tp m e β st be) (hB : BsR X Y tp m nc nr d) :
    (∃ n X1 Y1, n < nc ∧ ¬ nI n = u ∧ f_X7_takeDemanded σ X tp u = some (nI n, X1) ∧ f_X10_columnHere τ Y m = some (nI n, Y) ∧ f_X10_goes τ Y m = some Y1 ∧ Ok2 X Y tp m e β be X1 Y1) ∨
    (∃ n X1 Y1, n < nc ∧ nI n = u ∧ f_X7_takeDemanded σ X tp u = some (nI n, X1) ∧ f_X10_columnHere τ Y m = some (nI n, Y) ∧ f_X10_wrong τ Y m (nI 3) = some Y1 ∧ No2 X Y tp m e β X1 Y1) ∨
    (∃ v w X1 Y1, f_X7_takeDemanded σ X tp u = some (v, X1) ∧ f_X10_columnHere τ Y m = some (w, Y1) ∧ No2 X Y tp m e β X1 Y1) := by
  have t0 := hp.1
  have t2 : shR σ tp 2 = some (tp + 2) := hp.2.2.1
  have m0 := hm.1
  have hS := told_sk hp
  have hT : tabOK σ (tp + 2 + 1) := hS.2.2.2.2.2.2.2.2.1
  obtain ⟨-, g1, g2, g3, g4, g5, -⟩ := id hB
  rcases num_both (lim := 9999) hp hm h (by omega) with ⟨n, X1, Y1, a1, a2, a3, a4, a5⟩ | ⟨v, w, X1, Y1, a1, a2, a3⟩
  · obtain ⟨b1, b2, st1, be1, b3, b4⟩ := id a5
    have hB1 := hB.tk b1 b2
    have hc : f_X6_hasColumn σ X1 (tp + 2 + 1) (nI n) = some (bI (decide (n < nc))) := by
      rw [s_hasColumn hT]
      refine congrArg (fun z => some (bI z)) ?_
      by_cases q : n < 9
      · rw [inB_n q (by omega), hB1.2.1]
      · rw [inB_hi (by rw [n_lt (by omega) (by omega)]; omega) (by rw [n_le (by omega) (by omega)]; omega), decide_eq_false (by omega)]
    have dd : No2 X Y tp m e β (sI (sI X1 tp 4 (nI 3)) tp 3 (X.1 tp 7)) (sI (sI Y m 3 (nI 3)) m 4 (Y.1 m 9)) := by
      refine ⟨b1.trans TkF.die, MkF.die, ?_⟩
      rw [h.2.2.2.2.2.2.2.1, h.2.2.2.2.2.2.2.2.2.1]
      exact GdR.die (st := st1) (be := be1) b4.rd (by omega) (by omega)
    have e39 : f_X7_takeDemanded_39 σ tp (X.1 tp 7) (nI n) X1 = some (nI n, sI (sI X1 tp 4 (nI 3)) tp 3 (X.1 tp 7)) := by
      unfold f_X7_takeDemanded_39
      rw [show (3 : Int32) = nI 3 from rfl, c_fail_g hp b4.2.2.2.1, bnd2_k]
    have cl : f_X7_takeDemanded σ X tp u = if n < nc then (if nI n = u then some (nI n, sI (sI X1 tp 4 (nI 3)) tp 3 (X.1 tp 7)) else some (nI n, X1)) else some (nI n, sI (sI X1 tp 4 (nI 3)) tp 3 (X.1 tp 7)) := by
      unfold f_X7_takeDemanded
      simp only [litM]
      rw [grd_t t0, ldI_t t0, a2, bnd2_k, ldI_t t0, if_pos b4.2.2.2.1]
      simp only [ldR, t0, t2, hS.1, hS.2.1, if_true, Option.bind_some]
      rw [hc, Option.bind_some, e39]
      by_cases q : n < nc
      · rw [decide_eq_true q, if_neg (by decide), if_pos q]
      · rw [decide_eq_false q, if_pos bI_f, if_neg q]
    have md : f_X10_columnHere τ Y m = if n < nc then some (nI n, Y) else some (nI n, sI (sI Y m 3 (nI 3)) m 4 (Y.1 m 9)) := by
      unfold f_X10_columnHere
      simp only [litM]
      rw [grd_t m0, a3, bnd2_k, m_good_t hm h.2.2.2.2.1, Option.bind_some, if_neg (by decide), ldI_t m0, g5, m_wrong_g hm h.2.2.2.2.1, Option.bind_some]
      by_cases q : n < nc
      · rw [if_pos (by rw [n_lt (by omega) (by omega)]; exact q), if_pos q]
      · rw [if_neg (by rw [n_lt (by omega) (by omega)]; exact q), if_neg q]
    by_cases q : n < nc
    · rw [if_pos q] at cl md
      by_cases q2 : nI n = u
      · rw [if_pos q2] at cl
        exact Or.inr (Or.inl ⟨n, _, _, q, q2, cl, md, m_wrong_g hm h.2.2.2.2.1, dd⟩)
      · rw [if_neg q2] at cl
        exact Or.inl ⟨n, X1, Y1, q, q2, cl, md, a4, a5⟩
    · rw [if_neg q] at cl md
      exact Or.inr (Or.inr ⟨_, _, _, _, cl, md, dd⟩)
  · refine Or.inr (Or.inr ⟨v, w, X1, Y1, ?_, ?_, a3⟩)
    · unfold f_X7_takeDemanded
      simp only [litM]
      rw [grd_t t0, ldI_t t0, a1, bnd2_k, ldI_t t0, if_neg a3.2.2.nx]
    · unfold f_X10_columnHere
      simp only [litM]
      rw [grd_t m0, a2, bnd2_k, m_good_f hm a3.2.2.ny, Option.bind_some, if_pos rfl]
theorem dem52_d {σ τ : Sh} {X : Mx} {tp m e : Nat} {β : Nat → Nat} {x y w : Int32} (hp : tpOK σ tp) (hm : mdOK τ m) (h : RdC X tp e β) (hf : ¬ X.1 tp 4 = nI 0) : ∃ X1, f_X7_readDemand_52 σ tp x y X w = some X1 ∧ CD X X1 tp e β := by
  obtain ⟨X1, b1, b2⟩ := semi_d hp hm h hf
  refine ⟨X1, ?_, b2⟩
  unfold f_X7_readDemand_52
  simp only [litM]
  rw [b1, Option.bind_some, ldI_t hp.1, if_neg (by rw [b2.2.2.1]; exact hf)]
/-- behind the first column of a demand, the class dead -/
theorem demT_d {σ τ : Sh} {X : Mx} {tp m e : Nat} {β : Nat → Nat} {x y : Int32} (hp : tpOK σ tp) (hm : mdOK τ m) (h : RdC X tp e β) (hf : ¬ X.1 tp 4 = nI 0) : ∃ X1, (if x = nI 2 then bnd2 (f_X7_takeDemanded σ X tp y) fun v8 X7 => f_X7_readDemand_52 σ tp x y X7 v8 else f_X7_readDemand_52 σ tp x y X y) = some X1 ∧ CD X X1 tp e β := by
  by_cases q : x = nI 2
  · rw [if_pos q]
    obtain ⟨v, X1, a1, a2⟩ := dem_d (x := y) hp hm h hf
    obtain ⟨X2, b1, b2⟩ := dem52_d (x := x) (y := y) (w := v) hp hm a2.2.2.2 (by rw [a2.2.2.1]; exact hf)
    exact ⟨X2, by rw [a1, bnd2_k, b1], a2.trans b2⟩
  · rw [if_neg q]; exact dem52_d hp hm h hf
theorem BsR.dem {X Y : Mx} {tp m nc nr d kd f q : Nat} {y0 : Int32} (hB : BsR X Y tp m nc nr d) (hd : d < 4) (hkd : kd < 3) (hf : f < 9) (hq : q < 9) (h2 : kd = 2 → y0 = nI q) (hn : kd ≠ 2 → q = f) : BsR (sI (sI (sI (sI X (tp + 2 + 13) d (nI kd)) (tp + 2 + 14) d (nI f)) (tp + 2 + 15) d (nI q)) (tp + 2) 5 (nI (d + 1))) (sI (sI (sI (sI Y (m + 3) (1532 + d) (nI kd)) (m + 3) (1536 + d) (nI f)) (m + 3) (1540 + d) y0) (m + 3) 1531 (nI (d + 1))) tp m nc nr (d + 1) := by
  obtain ⟨hT, h1, h2', h3, h4, h5, h6, h7, h8, h9, h10, h11, h12, h13, h14, h15, h16⟩ := hB
  have xr : ∀ r, r ≠ tp + 2 → r ≠ tp + 2 + 13 → r ≠ tp + 2 + 14 → r ≠ tp + 2 + 15 → (sI (sI (sI (sI X (tp + 2 + 13) d (nI kd)) (tp + 2 + 14) d (nI f)) (tp + 2 + 15) d (nI q)) (tp + 2) 5 (nI (d + 1))).1 r = X.1 r := fun r a b c e => by rw [sI_ne a, sI_ne e, sI_ne c, sI_ne b]
  have yr : ∀ j, j ≠ 1531 → j ≠ 1532 + d → j ≠ 1536 + d → j ≠ 1540 + d → (sI (sI (sI (sI Y (m + 3) (1532 + d) (nI kd)) (m + 3) (1536 + d) (nI f)) (m + 3) (1540 + d) y0) (m + 3) 1531 (nI (d + 1))).1 (m + 3) j = Y.1 (m + 3) j := fun j a b c e => by rw [sI_nk a, sI_nk e, sI_nk c, sI_nk b]
  have ym : ∀ j, (sI (sI (sI (sI Y (m + 3) (1532 + d) (nI kd)) (m + 3) (1536 + d) (nI f)) (m + 3) (1540 + d) y0) (m + 3) 1531 (nI (d + 1))).1 m j = Y.1 m j := fun j => by rw [sI_na (by omega), sI_na (by omega), sI_na (by omega), sI_na (by omega)]
  refine ⟨hT.fr (fun r a b => xr r (by omega) (by omega) (by omega) (by omega)) (fun j a b => yr j (by omega) (by omega) (by omega) (by omega)), by rw [xr _ (by omega) (by omega) (by omega) (by omega)]; exact h1, h2', by rw [xr _ (by omega) (by omega) (by omega) (by omega)]; exact h3, h4, by rw [ym]; exact h5, by rw [ym]; exact h6, by rw [xr _ (by omega) (by omega) (by omega) (by omega)]; exact h7, by rw [xr _ (by omega) (by omega) (by omega) (by omega)]; exact h8, by rw [ym]; exact h9, by omega, sI_eq, sI_eq, fun i hi => ?_, by rw [yr _ (by omega) (by omega) (by omega) (by omega)]; exact h14, by rw [yr _ (by omega) (by omega) (by omega) (by omega)]; exact h15, fun i hi => by rw [yr _ (by omega) (by omega) (by omega) (by omega)]; exact h16 i hi⟩
  by_cases e : i = d
  · subst e
    refine ⟨kd, f, q, hkd, hf, hq, ?_, ?_, ?_, ?_, ?_, fun e => ?_, hn⟩
    · rw [sI_na (by omega), sI_na (by omega), sI_na (by omega), sI_eq]
    · rw [sI_na (by omega), sI_na (by omega), sI_eq]
    · rw [sI_na (by omega), sI_eq]
    · rw [show 931 + 601 + i = 1532 + i by omega, sI_nk (by omega), sI_nk (by omega), sI_nk (by omega), sI_eq]
    · rw [show 931 + 605 + i = 1536 + i by omega, sI_nk (by omega), sI_nk (by omega), sI_eq]
    · rw [show 931 + 609 + i = 1540 + i by omega, sI_nk (by omega), sI_eq]; exact h2 e
  · obtain ⟨kd', f', q', r1, r2, r3, r4, r5, r6, r7, r8, r9, r10⟩ := h13 i (by omega)
    refine ⟨kd', f', q', r1, r2, r3, ?_, ?_, ?_, ?_, ?_, fun e => ?_, r10⟩
    · rw [sI_na (by omega), sI_na (by omega), sI_na (by omega), sI_nk e]; exact r4
    · rw [sI_na (by omega), sI_na (by omega), sI_nk e, sI_na (by omega)]; exact r5
    · rw [sI_na (by omega), sI_nk e, sI_na (by omega), sI_na (by omega)]; exact r6
    · rw [yr _ (by omega) (by omega) (by omega) (by omega)]; exact r7
    · rw [yr _ (by omega) (by omega) (by omega) (by omega)]; exact r8
    · rw [yr _ (by omega) (by omega) (by omega) (by omega)]; exact r9 e
theorem m_rd68 {τ : Sh} {Y : Mx} {m d : Nat} {x1 x3 x4 : Int32} (hm : mdOK τ m) (h : Y.1 m 3 = nI 0) (hd : d < 4) (h6 : Y.1 (m + 3) 1531 = nI d) : f_X10_readsDemand_68 τ m x1 (nI d) x3 x4 Y = some (sI (sI (sI (sI Y (m + 3) (1532 + d) x1) (m + 3) (1536 + d) x3) (m + 3) (1540 + d) x4) (m + 3) 1531 (nI (d + 1))) := by
  have hg := m_good_t hm h
  obtain ⟨m0, m1, m2, m3, m4, m5, m6, m7, m8, m9, m10, m11, m12, m13, m14, m15, m16, m17, mq1, mq2, mq3, mq4, mq5, mq6, mq7, mq8, mq9, mq10, mq11, mq12, mq13, mq14, mq15, mq16, mq17, mn1, mn2, mn3, mn4, mn5, mn6, mn7, mn8, mn9, mn10, mn11, mn12, mn13, mn14, mn15, mn16, mn17⟩ := hm
  unfold f_X10_readsDemand_68
  simp only [litM]
  rw [hg, Option.bind_some, if_neg (by decide)]
  simp only [ldR, m0, m3, if_true, Option.bind_some, nI_add]
  rw [stA_t mq3 (by omega) (by omega), stA_t mq3 (by omega) (by omega), stA_t mq3 (by omega) (by omega), ldA_t mq3 (by omega) (by omega), stA_t mq3 (by omega) (by omega), sI_nk (by omega), sI_nk (by omega), sI_nk (by omega), h6, nI_add]
/-- the end of a demand, in both: put, and the semicolon -/
theorem dem_end {σ τ : Sh} {X Y : Mx} {tp m e st be k nc nr d kd f q : Nat} {β : Nat → Nat} {y0 : Int32} (hp : tpOK σ tp) (hm : mdOK τ m) (h : GdR X Y tp m e β st be) (hB : BsR X Y tp m nc nr d) (hd : d < 4) (hkd : kd < 3) (hf : f < 9) (hq : q < 9) (h2 : kd = 2 → y0 = nI q) (hn : kd ≠ 2 → q = f) : LnR X Y tp m e β be k (f_X7_readDemand_52 σ tp (nI kd) (nI f) X (nI q)) ((f_X10_readsDemand_68 τ m (nI kd) (nI d) (nI f) y0 Y).bind fun X5 => f_X10_line_188 τ m X5) := by
  have t0 := hp.1
  have t2 : shR σ tp 2 = some (tp + 2) := hp.2.2.1
  have hS := told_sk hp
  obtain ⟨Y4, hY4⟩ : ∃ Y4, Y4 = sI (sI (sI (sI Y (m + 3) (1532 + d) (nI kd)) (m + 3) (1536 + d) (nI f)) (m + 3) (1540 + d) y0) (m + 3) 1531 (nI (d + 1)) := ⟨_, rfl⟩
  have e68 := m_rd68 (x1 := nI kd) (x3 := nI f) (x4 := y0) hm h.2.2.2.2.1 hd hB.2.2.2.2.2.2.2.2.2.2.2.2.1
  rw [← hY4] at e68
  have ym : ∀ r, r ≠ m + 3 → Y4.1 r = Y.1 r := fun r hr => by rw [hY4, sI_ne hr, sI_ne hr, sI_ne hr, sI_ne hr]
  have g4 : GdR X Y4 tp m e β st be := h.fr rfl (fun _ _ _ => rfl) (ym _ (by omega)) (fun j _ => by rw [ym m (by omega)]) (by rw [hY4]; rfl)
  have lmY : LM Y Y4 m := ⟨fun _ _ => by rw [hY4]; rfl, fun r _ b => ym r b, fun j _ => by rw [ym m (by omega)], fun j hj => by rw [hY4, sI_nk (by omega), sI_nk (by omega), sI_nk (by omega), sI_nk (by omega)]⟩
  obtain ⟨X5, Y5, s1, s2, hs⟩ := semi_both hp hm g4
  have cl : f_X7_readDemand_52 σ tp (nI kd) (nI f) X (nI q) = if X5.1 tp 4 = nI 0 then (f_X5_putDemand σ X5 (tp + 2) (nI kd) (nI f) (nI q)).bind fun X6 => some X6 else some X5 := by
    unfold f_X7_readDemand_52
    simp only [litM]
    rw [s1, Option.bind_some, ldI_t t0]
    simp only [ldR, t0, t2, if_true, Option.bind_some]
  rcases hs with ⟨⟨s3, s4, st4, be4, s5, s6⟩, -⟩ | ⟨⟨s3, s4, s5⟩, -, -⟩
  · have x5 : X5.1 (tp + 2) 5 = nI d := by rw [s3.2.1 _ (by omega)]; exact hB.2.2.2.2.2.2.2.2.2.2.2.1
    rw [if_pos s6.2.2.2.1, s_putDemand hS hd x5, Option.bind_some] at cl
    have hdem := hB.dem hd hkd hf hq h2 hn
    rw [← hY4] at hdem
    refine ⟨_, Y5, cl, by rw [e68, Option.bind_some, s2], ?_, lmY.trans s4.lm, Or.inl ⟨st4, be4, by omega, ?_, Or.inl ⟨nc, nr, d + 1, hdem.tk ⟨s3.1, fun r hr => ?_, fun j a b c d e => ?_⟩ s4⟩⟩⟩
    · exact s3.lf.trans ⟨rfl, fun r a b => by rw [sI_ne (by omega), sI_ne (by omega), sI_ne (by omega), sI_ne (by omega)], by rw [sI_na (by omega), sI_na (by omega), sI_na (by omega), sI_na (by omega)]⟩
    · exact s6.fr (by rw [sI_ne (by omega), sI_ne (by omega), sI_ne (by omega), sI_ne (by omega)]) (fun j _ _ => by rw [sI_na (by omega), sI_na (by omega), sI_na (by omega), sI_na (by omega)]) rfl (fun _ _ => rfl) rfl
    · have e2 := s3.2.1 r hr
      unfold sI
      simp only [e2]
    · rw [sI_na (by omega), sI_na (by omega), sI_na (by omega), sI_na (by omega), sI_na (by omega), sI_na (by omega), sI_na (by omega), sI_na (by omega)]
      exact s3.2.2 j a b c d e
  · rw [if_neg s5.nx] at cl
    exact ⟨X5, Y5, cl, by rw [e68, Option.bind_some, s2], s3.lf, lmY.trans s4.lm, Or.inr s5⟩
theorem LnR.pre {X Y X1 Y1 : Mx} {tp m e be be1 k : Nat} {β : Nat → Nat} {fc fm : Option Mx} (h : LnR X1 Y1 tp m e β be1 k fc fm) (hx : TkF X X1 tp) (hy : MkF Y Y1 m) (hb : be ≤ be1) : LnR X Y tp m e β be k fc fm := by
  obtain ⟨X2, Y2, a, b, c, d, h⟩ := h
  refine ⟨X2, Y2, a, b, hx.lf.trans c, hy.lm.trans d, ?_⟩
  rcases h with ⟨st1, be2, h1, h2⟩ | h
  · exact Or.inl ⟨st1, be2, by omega, h2⟩
  · exact Or.inr h
theorem LnR.dead {X Y X1 Y1 X2 : Mx} {tp m e be k : Nat} {β : Nat → Nat} {fc fm : Option Mx} (h : No2 X Y tp m e β X1 Y1) (hc : CD X1 X2 tp e β) (a : fc = some X2) (b : fm = some Y1) : LnR X Y tp m e β be k fc fm := ⟨X2, Y1, a, b, (h.1.trans hc.1).lf, h.2.1.lm, Or.inr (h.2.2.cd hc)⟩
theorem dem_line {σ τ : Sh} {X Y : Mx} {tp m e st be k nc nr d kd : Nat} {β : Nat → Nat} (hp : tpOK σ tp) (hm : mdOK τ m) (h : GdR X Y tp m e β st be) (hB : BsR X Y tp m nc nr d) (hkd : kd < 3) : LnR X Y tp m e β be k (f_X7_readDemand σ X tp (nI kd)) (f_X10_line_126 τ m (nI (6 + kd)) Y m (nI 0)) := by
  have t0 := hp.1
  have t2 : shR σ tp 2 = some (tp + 2) := hp.2.2.1
  have m0 := hm.1
  have hS := told_sk hp
  obtain ⟨-, g1, g2, g3, g4, g5, g6, g7, g8, g9, g10, g11, g12, -⟩ := id hB
  have e6 : nI (6 + kd) - nI 6 = nI kd := by rw [sub_n (by omega), Nat.add_sub_cancel_left]
  have hcl : f_X7_readDemand σ X tp (nI kd) = f_X7_readDemand_29 σ tp (nI kd) X tp (bI true) (bI (decide (d < 4))) := by
    unfold f_X7_readDemand f_X7_readDemand_13
    simp only [litM]
    rw [grd_t t0, ldI_t t0, g8, if_pos rfl]
    simp only [ldR, t0, t2, if_true, Option.bind_some]
    rw [ldI_t hS.1, g11]
    by_cases q : d < 4
    · rw [if_neg (by rw [n_le (by omega) (by omega)]; omega), decide_eq_true q]; rfl
    · rw [if_pos (by rw [n_le (by omega) (by omega)]; omega), decide_eq_false q]; rfl
  have hmd : f_X10_line_126 τ m (nI (6 + kd)) Y m (nI 0) = f_X10_line_143 τ m (nI (6 + kd)) Y m (bI (!true)) (bI (!decide (d < 4))) := by
    unfold f_X10_line_126
    simp only [litM]
    obtain ⟨m0, m1, m2, m3, m4, m5, m6, m7, m8, m9, m10, m11, m12, m13, m14, m15, m16, m17, mq1, mq2, mq3, mq4, mq5, mq6, mq7, mq8, mq9, mq10, mq11, mq12, mq13, mq14, mq15, mq16, mq17, mn1, mn2, mn3, mn4, mn5, mn6, mn7, mn8, mn9, mn10, mn11, mn12, mn13, mn14, mn15, mn16, mn17⟩ := hm
    simp only [ldR, m0, m3, if_true, Option.bind_some]
    rw [ldA_t mq3 (by omega) (by omega), show Y.1 (m + 3) 1531 = nI d from g12]
    by_cases q : d = 4
    · rw [if_pos (by rw [q]), decide_eq_false (show ¬ d < 4 by omega)]; rfl
    · rw [if_neg (nI_ne q (by omega) (by omega)), decide_eq_true (show d < 4 by omega)]; rfl
  obtain ⟨X1, Y1, a1, hh⟩ := head_both (b1 := true) (b2 := decide (d < 4)) hp hm h
  have c29 : f_X7_readDemand_29 σ tp (nI kd) X tp (bI true) (bI (decide (d < 4))) = bnd2 (f_X7_takeDemanded σ X1 tp (-(nI 1))) fun v5 X4 => (if nI kd = nI 2 then bnd2 (f_X7_takeDemanded σ X4 tp v5) fun v8 X7 => f_X7_readDemand_52 σ tp (nI kd) v5 X7 v8 else f_X7_readDemand_52 σ tp (nI kd) v5 X4 v5) := by
    unfold f_X7_readDemand_29
    simp only [litM]
    rw [a1, Option.bind_some]
  rcases hh with ⟨a2, ⟨a3, a4, st1, be1, a5, a6⟩, -, a8⟩ | ⟨a2, a3⟩
  · have d4 : d < 4 := of_decide_eq_true a8
    have hB1 := hB.tk a3 a4
    have r1 := a6.2.2.2.2.2.1
    have mdl : f_X10_line_126 τ m (nI (6 + kd)) Y m (nI 0) = (f_X10_readsDemand τ Y1 m (nI kd)).bind fun X5 => f_X10_line_188 τ m X5 := by
      rw [hmd]
      unfold f_X10_line_143
      simp only [litM]
      rw [a2, bnd2_k, if_neg (by decide), e6]
    have w1 : Y1.1 (m + 3) 1531 = nI d := hB1.2.2.2.2.2.2.2.2.2.2.2.2.1
    have rdd : f_X10_readsDemand τ Y1 m (nI kd) = bnd2 (f_X10_columnHere τ Y1 m) fun v5 X4 => (f_X10_isGood τ X4 m).bind fun v7 => (if v7 = nI 0 then f_X10_readsDemand_25 τ m (nI kd) (nI d) v5 X4 else (f_X10_goes τ X4 m).bind fun X9 => f_X10_readsDemand_25 τ m (nI kd) (nI d) v5 X9) := by
      unfold f_X10_readsDemand
      simp only [litM]
      rw [grd_t m0]
      obtain ⟨m0, m1, m2, m3, m4, m5, m6, m7, m8, m9, m10, m11, m12, m13, m14, m15, m16, m17, mq1, mq2, mq3, mq4, mq5, mq6, mq7, mq8, mq9, mq10, mq11, mq12, mq13, mq14, mq15, mq16, mq17, mn1, mn2, mn3, mn4, mn5, mn6, mn7, mn8, mn9, mn10, mn11, mn12, mn13, mn14, mn15, mn16, mn17⟩ := hm
      simp only [ldR, m0, m3, if_true, Option.bind_some]
      rw [ldA_t mq3 (by omega) (by omega), w1]
    have rd68d : ∀ {Yd : Mx} {x y z w : Int32}, ¬ Yd.1 m 3 = nI 0 → f_X10_readsDemand_68 τ m x y z w Yd = some Yd := fun hd => by
      unfold f_X10_readsDemand_68
      simp only [litM]
      rw [m_good_f hm hd, Option.bind_some, if_pos rfl]
    have rd57d : ∀ {Yd : Mx} {x y z w : Int32}, ¬ Yd.1 m 3 = nI 0 → f_X10_readsDemand_57 τ m x y z w Yd = some Yd := fun hd => by
      unfold f_X10_readsDemand_57
      simp only [litM]
      rw [m_good_f hm hd, Option.bind_some, if_pos rfl, rd68d hd]
    refine LnR.pre (be1 := be1) ?_ a3 a4 (by omega)
    rw [hcl, c29, mdl, rdd]
    have big : ∀ n : Nat, n < 2 ^ 31 → ¬ nI n = -(nI 1) := fun n hn => by rw [m_eq hn]; exact not_false
    rcases dmd_both (u := -(nI 1)) hp hm a6 hB1 with ⟨f, X2, Y2, f1, f2, f3, f4, f5, f6, f7, st2, be2, f8, f9⟩ | ⟨f, X2, Y2, f1, f2, -⟩ | ⟨v, w, X2, Y2, f1, f2, f3⟩
    · have hB2 := hB1.tk f6 f7
      have r2 := f9.2.2.2.2.2.1
      rw [f3, bnd2_k, f4, bnd2_k, m_good_t hm a6.2.2.2.2.1, Option.bind_some, if_neg (show ¬ nI 1 = nI 0 by decide), f5, Option.bind_some]
      refine LnR.pre (be1 := be2) ?_ f6 f7 (by omega)
      by_cases k2 : kd = 2
      · rw [if_pos (by rw [k2])]
        have r25 : f_X10_readsDemand_25 τ m (nI kd) (nI d) (nI f) Y2 = bnd2 (f_X10_columnHere τ Y2 m) fun v3 X2 => (f_X10_isGood τ X2 m).bind fun v5 => (if v5 = nI 0 then f_X10_readsDemand_57 τ m (nI kd) (nI d) (nI f) v3 X2 else (if nI f = v3 then (f_X10_wrong τ X2 m (nI 3)).bind fun X7 => f_X10_readsDemand_57 τ m (nI kd) (nI d) (nI f) v3 X7 else f_X10_readsDemand_57 τ m (nI kd) (nI d) (nI f) v3 X2)) := by
          unfold f_X10_readsDemand_25
          simp only [litM]
          rw [if_pos (by rw [k2])]
        rw [r25]
        rcases dmd_both (u := nI f) hp hm f9 hB2 with ⟨q, X3, Y3, q1, q2, q3, q4, q5, q6, q7, st3, be3, q8, q9⟩ | ⟨q, X3, Y3, q1, q2, q3, q4, q5, q6⟩ | ⟨v, w, X3, Y3, q1, q2, q3⟩
        · have hB3 := hB2.tk q6 q7
          have r3 := q9.2.2.2.2.2.1
          rw [q3, bnd2_k, q4, bnd2_k, m_good_t hm f9.2.2.2.2.1, Option.bind_some, if_neg (show ¬ nI 1 = nI 0 by decide), if_neg (fun e => q2 e.symm)]
          have r57 : f_X10_readsDemand_57 τ m (nI kd) (nI d) (nI f) (nI q) Y2 = f_X10_readsDemand_68 τ m (nI kd) (nI d) (nI f) (nI q) Y3 := by
            unfold f_X10_readsDemand_57
            simp only [litM]
            rw [m_good_t hm f9.2.2.2.2.1, Option.bind_some, if_neg (show ¬ nI 1 = nI 0 by decide), q5, Option.bind_some]
          rw [r57]
          exact (dem_end (k := k) hp hm q9 hB3 d4 hkd (by omega) (by omega) (fun _ => rfl) (fun e => absurd k2 e)).pre q6 q7 (by omega)
        · obtain ⟨X4, s1, s2⟩ := dem52_d (x := nI kd) (y := nI f) (w := nI q) hp hm q6.2.2.1 q6.2.2.nx
          refine LnR.dead q6 s2 (by rw [q3, bnd2_k, s1]) ?_
          rw [q4, bnd2_k, m_good_t hm f9.2.2.2.2.1, Option.bind_some, if_neg (show ¬ nI 1 = nI 0 by decide), if_pos q2.symm, q5, Option.bind_some, rd57d q6.2.2.ny, Option.bind_some, line188_d hm q6.2.2.ny]
        · obtain ⟨X4, s1, s2⟩ := dem52_d (x := nI kd) (y := nI f) (w := v) hp hm q3.2.2.1 q3.2.2.nx
          refine LnR.dead q3 s2 (by rw [q1, bnd2_k, s1]) ?_
          rw [q2, bnd2_k, m_good_f hm q3.2.2.ny, Option.bind_some, if_pos rfl, rd57d q3.2.2.ny, Option.bind_some, line188_d hm q3.2.2.ny]
      · rw [if_neg (nI_ne k2 (by omega) (by omega))]
        have r25 : f_X10_readsDemand_25 τ m (nI kd) (nI d) (nI f) Y2 = f_X10_readsDemand_68 τ m (nI kd) (nI d) (nI f) (nI 0) Y2 := by
          unfold f_X10_readsDemand_25
          simp only [litM]
          rw [if_neg (nI_ne k2 (by omega) (by omega))]
        rw [r25]
        exact dem_end hp hm f9 hB2 d4 hkd (by omega) (by omega) (fun e => absurd e k2) (fun _ => rfl)
    · exact absurd f2 (big f (by omega))
    · obtain ⟨X3, s1, s2⟩ := demT_d (x := nI kd) (y := v) hp hm f3.2.2.1 f3.2.2.nx
      refine LnR.dead f3 s2 (by rw [f1, bnd2_k, s1]) ?_
      rw [f2, bnd2_k, m_good_f hm f3.2.2.ny, Option.bind_some, if_pos rfl]
      unfold f_X10_readsDemand_25
      simp only [litM]
      by_cases k2 : kd = 2
      · rw [if_pos (by rw [k2])]
        unfold f_X10_columnHere f_X10_numberHere
        simp only [litM]
        rw [grd_t m0, grd_t m0, m_good_f hm f3.2.2.ny, Option.bind_some, if_pos rfl, bnd2_k, m_good_f hm f3.2.2.ny, Option.bind_some, if_pos rfl, bnd2_k, m_good_f hm f3.2.2.ny, Option.bind_some, if_pos rfl, rd57d f3.2.2.ny, Option.bind_some, line188_d hm f3.2.2.ny]
      · rw [if_neg (nI_ne k2 (by omega) (by omega)), rd68d f3.2.2.ny, Option.bind_some, line188_d hm f3.2.2.ny]
  · obtain ⟨v, X2, c1, c2⟩ := dem_d (x := -(nI 1)) hp hm a3.2.2.1 a3.2.2.nx
    obtain ⟨X3, c3, c4⟩ := demT_d (x := nI kd) (y := v) hp hm c2.2.2.2 (by rw [c2.2.2.1]; exact a3.2.2.nx)
    refine LnR.dead a3 (c2.trans c4) (by rw [hcl, c29, c1, bnd2_k, c3]) ?_
    rw [hmd]
    unfold f_X10_line_143
    simp only [litM]
    rw [a2, bnd2_k, if_pos rfl, line188_d hm a3.2.2.ny]
