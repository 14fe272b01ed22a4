/-! ===== reading: a line, and all of them ===== -/
theorem head_no {σ τ : Sh} {X Y : Mx} {tp m e st be : Nat} {β : Nat → Nat} (hp : tpOK σ tp) (hm : mdOK τ m) (h : GdR X Y tp m e β st be) : ∃ X1 Y1, (∀ y, f_X7_takeHead σ X tp (nI 0) y = some X1) ∧ (∀ y, f_X10_begins τ Y m (nI 1) y = some (nI 0, Y1)) ∧ No2 X Y tp m e β X1 Y1 := by
  obtain ⟨X1, Y1, a1, a2, a3⟩ := die_no (f := 1) hp hm h (by omega) (by omega)
  refine ⟨X1, Y1, fun y => ?_, fun y => ?_, a3⟩
  · unfold f_X7_takeHead
    simp only [litM]
    rw [grd_t hp.1, if_pos trivial, ldI_t hp.1, a1, bnd2_k]
  · unfold f_X10_begins f_X10_begins_9 f_X10_begins_18
    simp only [litM]
    rw [grd_t hm.1, if_neg (by decide), a2, Option.bind_some, m_wrong_d hm a3.2.2.ny, Option.bind_some, m_good_f hm a3.2.2.ny, Option.bind_some, if_pos rfl]
    split <;> rfl
theorem line_both {σ τ : Sh} {X Y : Mx} {tp m e st be k : Nat} {β : Nat → Nat} (hp : tpOK σ tp) (hm : mdOK τ m) (h : GdR X Y tp m e β st be) (hT : Told X Y tp m k) (hk : k < 30000) : LnR X Y tp m e β be (k + 1) (f_X7_readLine σ X tp) (f_X10_line τ Y m) := by
  have t0 := hp.1
  have t2 : shR σ tp 2 = some (tp + 2) := hp.2.2.1
  have m0 := hm.1
  have hS := told_sk hp
  have hTb : tabOK σ (tp + 2 + 1) := hS.2.2.2.2.2.2.2.2.1
  obtain ⟨Xd, Yd, d1, d2, d3⟩ := die_no (f := 1) hp hm h (by omega) (by omega)
  obtain ⟨Xh, Yh, h1, h2, h3⟩ := head_no hp hm h
  -- what the class does, by the word
  have wd : ∀ w, (∀ w', w' < 18 → f_X7_isWord σ X tp w' = some (bI (decide (w' = w)))) → f_X7_readLine σ X tp = (if w = 0 then f_X7_readColumn σ X tp else if w = 1 then f_X7_readRow σ X tp else if w = 2 then f_X7_readDemand σ X tp (nI 0) else if w = 3 then f_X7_readDemand σ X tp (nI 1) else if w = 4 then f_X7_readDemand σ X tp (nI 2) else if w = 5 then f_X7_readEdit σ X tp (nI 0) else if w = 6 then f_X7_readEdit σ X tp (nI 1) else some Xd) := fun w hw => by
    have bs : ∀ o : Option Mx, (o.bind fun X => some X) = o := fun o => by cases o <;> rfl
    have sw : ∀ (w' : Nat) (x y : Option Mx), (if bI (decide (w' = w)) = nI 0 then x else y) = if w = w' then y else x := fun w' x y => by
      by_cases q : w = w'
      · rw [if_pos q, if_neg (by rw [bI_z]; intro hh; exact of_decide_eq_false hh q.symm)]
      · rw [if_neg q, if_pos (by rw [bI_z]; exact decide_eq_false (fun e => q e.symm))]
    unfold f_X7_readLine
    simp only [litM]
    rw [grd_t t0, hw 0 (by omega), Option.bind_some, hw 1 (by omega), Option.bind_some, hw 2 (by omega), Option.bind_some, hw 3 (by omega), Option.bind_some, hw 4 (by omega), Option.bind_some, hw 5 (by omega), Option.bind_some, hw 6 (by omega), Option.bind_some, ldI_t t0, d1, bnd2_k]
    rw [sw 0, sw 1, sw 2, sw 3, sw 4, sw 5, sw 6]
    simp only [bs]
  have bad : f_X7_readLine σ X tp = some Xd → f_X10_line τ Y m = ((f_X10_wrong τ Y m (nI 1)).bind fun X2 => f_X10_line_188 τ m X2) → LnR X Y tp m e β be (k + 1) (f_X7_readLine σ X tp) (f_X10_line τ Y m) := fun c1 c2 => by
    refine ⟨Xd, Yd, c1, by rw [c2, d2, Option.bind_some, line188_d hm d3.2.2.ny], d3.1.lf, d3.2.1.lm, Or.inr d3.2.2⟩
  have ml : ∀ v, f_X10_knownWord τ Y m = some v → f_X10_line τ Y m = (if v = nI 4 then ldI τ Y 8 m 15 fun v5 => (if nI 0 < v5 then f_X10_line_25 τ m Y m else ldI τ Y 8 m 16 fun v6 => (if v6 ≤ nI 0 then f_X10_line_30 τ m Y m (nI 0) else f_X10_line_25 τ m Y m)) else (if v = nI 5 then ldI τ Y 8 m 16 fun v4 => (if v4 ≤ nI 0 then f_X10_line_74 τ m Y m (nI 0) else f_X10_line_74 τ m Y m (nI 1)) else (if v < nI 6 then f_X10_line_160 τ m v Y else (if nI 8 < v then f_X10_line_160 τ m v Y else ldI τ Y 8 m 16 fun v3 => (if v3 ≤ nI 0 then f_X10_line_126 τ m v Y m (nI 0) else f_X10_line_126 τ m v Y m (nI 1)))))) := fun v hv => by
    unfold f_X10_line
    simp only [litM]
    rw [grd_t m0, hv, Option.bind_some]
  have wrong160 : ∀ v, ¬ v = nI 9 → ¬ v = nI 10 → f_X10_line_160 τ m v Y = ((f_X10_wrong τ Y m (nI 1)).bind fun X2 => f_X10_line_188 τ m X2) := fun v a b => by
    unfold f_X10_line_160
    simp only [litM]
    rw [if_neg a, if_neg b]
  rcases known_both hp hm h.1 h.2.2.2.2.2 with ⟨i, hi, k1, k2⟩ | ⟨k1, k2⟩
  · have cl := wd _ k2
    have md := ml _ k1
    have ed : ∀ s0, s0 < 2 → i = 9 + s0 → f_X7_readLine σ X tp = f_X7_readEdit σ X tp (nI s0) → LnR X Y tp m e β be (k + 1) (f_X7_readLine σ X tp) (f_X10_line τ Y m) := fun s0 hs hi9 c1 => by
      subst hi9
      rw [if_neg (nI_ne (by omega) (by omega) (by omega)), if_neg (nI_ne (by omega) (by omega) (by omega)), if_neg (by rw [n_lt (by omega) (by omega)]; omega), if_pos (by rw [n_lt (by omega) (by omega)]; omega)] at md
      have e160 : f_X10_line_160 τ m (nI (9 + s0)) Y = (f_X10_readsEdit τ Y m (nI s0)).bind fun X2 => f_X10_line_188 τ m X2 := by
        unfold f_X10_line_160 f_X10_line_172
        simp only [litM]
        rw [sub_n (by omega), Nat.add_sub_cancel_left]
        rcases (show s0 = 0 ∨ s0 = 1 by omega) with rfl | rfl
        · rw [if_pos rfl]
        · rw [if_neg (by decide), if_pos rfl]
      rw [c1, md, e160]
      exact edit_line hp hm h hT hk hs
    have dm : ∀ kd, kd < 3 → i = 6 + kd → f_X7_readLine σ X tp = f_X7_readDemand σ X tp (nI kd) → LnR X Y tp m e β be (k + 1) (f_X7_readLine σ X tp) (f_X10_line τ Y m) := fun kd hkd hi6 c1 => by
      subst hi6
      rw [if_neg (nI_ne (by omega) (by omega) (by omega)), if_neg (nI_ne (by omega) (by omega) (by omega)), if_neg (by rw [n_lt (by omega) (by omega)]; omega), if_neg (by rw [n_lt (by omega) (by omega)]; omega), ldI_t m0] at md
      rw [c1, md]
      rcases hT with ⟨nc, nr, d, hB⟩ | ⟨-, x10, ec, e1, e2, y16⟩
      · rw [hB.2.2.2.2.2.2.2.2.2.1, if_pos (Int32.le_refl _)]
        exact dem_line hp hm h hB hkd
      · rw [y16, if_neg (by rw [n_le (by omega) (by omega)]; omega)]
        obtain ⟨v, X2, c1, c2⟩ := dem_d (x := -(nI 1)) hp hm h3.2.2.1 h3.2.2.nx
        obtain ⟨X3, c3, c4⟩ := demT_d (x := nI kd) (y := v) hp hm c2.2.2.2 (by rw [c2.2.2.1]; exact h3.2.2.nx)
        have c29 : ∀ y2, f_X7_readDemand_29 σ tp (nI kd) X tp (nI 0) y2 = some X3 := fun y2 => by
          unfold f_X7_readDemand_29
          simp only [litM]
          rw [h1, Option.bind_some, c1, bnd2_k, c3]
        have m143 : ∀ y2, f_X10_line_143 τ m (nI (6 + kd)) Y m (nI 1) y2 = some Yh := fun y2 => by
          unfold f_X10_line_143
          simp only [litM]
          rw [h2, bnd2_k, if_pos rfl, line188_d hm h3.2.2.ny]
        refine LnR.dead h3 (c2.trans c4) ?_ ?_
        · unfold f_X7_readDemand f_X7_readDemand_13
          simp only [litM]
          rw [grd_t t0, ldI_t t0, x10, if_neg (by decide)]
          simp only [ldR, t0, t2, if_true, Option.bind_some]
          rw [ldI_t hS.1, c29, c29]
          split <;> rfl
        · unfold f_X10_line_126
          simp only [litM]
          obtain ⟨m0, m1, m2, m3, m4, m5, m6, m7, m8, m9, m10, m11, m12, m13, m14, m15, m16, m17, mq1, mq2, mq3, mq4, mq5, mq6, mq7, mq8, mq9, mq10, mq11, mq12, mq13, mq14, mq15, mq16, mq17, mn1, mn2, mn3, mn4, mn5, mn6, mn7, mn8, mn9, mn10, mn11, mn12, mn13, mn14, mn15, mn16, mn17⟩ := hm
          simp only [ldR, m0, m3, if_true, Option.bind_some]
          rw [ldA_t mq3 (by omega) (by omega), m143, m143]
          split <;> rfl
    have no : (∀ n, n < 7 → ¬ pw i = n) → ¬ i = 4 → ¬ i = 5 → (i < 6 ∨ 8 < i) → ¬ i = 9 → ¬ i = 10 → LnR X Y tp m e β be (k + 1) (f_X7_readLine σ X tp) (f_X10_line τ Y m) := fun hn a b c d e => by
      rw [if_neg (hn 0 (by omega)), if_neg (hn 1 (by omega)), if_neg (hn 2 (by omega)), if_neg (hn 3 (by omega)), if_neg (hn 4 (by omega)), if_neg (hn 5 (by omega)), if_neg (hn 6 (by omega))] at cl
      rw [if_neg (nI_ne a (by omega) (by omega)), if_neg (nI_ne b (by omega) (by omega))] at md
      refine bad cl ?_
      rw [md]
      rcases c with c | c
      · rw [if_pos (by rw [n_lt (by omega) (by omega)]; exact c)]
        exact wrong160 _ (nI_ne d (by omega) (by omega)) (nI_ne e (by omega) (by omega))
      · rw [if_neg (by rw [n_lt (by omega) (by omega)]; omega), if_pos (by rw [n_lt (by omega) (by omega)]; exact c)]
        exact wrong160 _ (nI_ne d (by omega) (by omega)) (nI_ne e (by omega) (by omega))
    by_cases i4 : i = 4
    · subst i4
      have c1 : f_X7_readLine σ X tp = f_X7_readColumn σ X tp := cl
      rw [if_pos rfl, ldI_t m0, ldI_t m0] at md
      rw [c1, md]
      rcases hT with ⟨nc, nr, d, hB⟩ | ⟨-, x10, ec, e1, e2, y16⟩
      · have g6 := hB.2.2.2.2.2.2.1
        have g4 := hB.2.2.2.2.1
        rw [g6, hB.2.2.2.2.2.2.2.2.2.1, if_pos (Int32.le_refl _)]
        have e : (if nI 0 < nI nr then f_X10_line_25 τ m Y m else f_X10_line_30 τ m Y m (nI 0)) = f_X10_line_30 τ m Y m (bI (decide (0 < nr))) := by
          by_cases q : 0 < nr
          · rw [if_pos (by rw [n_lt (by omega) (by omega)]; exact q), decide_eq_true q]; rfl
          · rw [if_neg (by rw [n_lt (by omega) (by omega)]; exact q), decide_eq_false q]; rfl
        rw [e]
        exact col_line hp hm h hB
      · rw [y16, if_neg (show ¬ nI ec ≤ nI 0 by rw [n_le (by omega) (by omega)]; omega)]
        have e25 : f_X10_line_25 τ m Y m = some Yh := by
          have m43 : ∀ y2, f_X10_line_43 τ m Y m (nI 1) y2 = some Yh := fun y2 => by
            unfold f_X10_line_43
            simp only [litM]
            rw [h2, bnd2_k, if_pos rfl, line188_d hm h3.2.2.ny]
          unfold f_X10_line_25 f_X10_line_30
          simp only [litM]
          rw [ldI_t m0, m43, m43]
          split <;> rfl
        rw [e25]
        have c34 : ∀ x, ∃ X2, f_X7_readColumn_34 σ tp x X tp (nI 0) = some X2 ∧ CD Xh X2 tp e β := fun x => by
          unfold f_X7_readColumn_34
          simp only [litM]
          split
          · exact col44_d hp hm (h1 _) h3.2.2.1 h3.2.2.nx
          · exact col44_d hp hm (h1 _) h3.2.2.1 h3.2.2.nx
        obtain ⟨X2, c5, c6⟩ := c34 (f_J6_bitCount_0f7a4 (X.1 (tp + 2 + 1) 0))
        refine LnR.dead h3 c6 ?_ (by split <;> rfl)
        unfold f_X7_readColumn f_X7_readColumn_33
        simp only [litM]
        rw [grd_t t0]
        simp only [ldR, t0, t2, hS.1, hS.2.1, if_true, Option.bind_some]
        rw [ldI_t hTb.1, ldI_t t0, ldI_t t0, x10, if_neg (show ¬ nI 1 = nI 0 by decide), c5]
        split <;> rfl
    · by_cases i5 : i = 5
      · subst i5
        have c1 : f_X7_readLine σ X tp = f_X7_readRow σ X tp := cl
        rw [if_neg (by decide), if_pos rfl, ldI_t m0] at md
        rw [c1, md]
        rcases hT with ⟨nc, nr, d, hB⟩ | ⟨-, x10, ec, e1, e2, y16⟩
        · rw [hB.2.2.2.2.2.2.2.2.2.1, if_pos (Int32.le_refl _)]
          exact row_line hp hm h hB
        · rw [y16, if_neg (show ¬ nI ec ≤ nI 0 by rw [n_le (by omega) (by omega)]; omega)]
          have e74 : f_X10_line_74 τ m Y m (nI 1) = some Yh := by
            have m88 : ∀ y2, f_X10_line_88 τ m Y m (nI 1) y2 = some Yh := fun y2 => by
              unfold f_X10_line_88
              simp only [litM]
              rw [h2, bnd2_k, if_pos rfl, line188_d hm h3.2.2.ny]
            unfold f_X10_line_74
            simp only [litM]
            rw [ldI_t m0, m88, m88]
            split <;> rfl
          rw [e74]
          obtain ⟨X1', hX1'⟩ : ∃ X1', X1' = sI Xh tp 9 (nI 1) := ⟨_, rfl⟩
          have x1j : ∀ j, j ≠ 9 → X1'.1 tp j = Xh.1 tp j := fun j hj => by rw [hX1', sI_nk hj]
          have x1r : ∀ r, r ≠ tp → X1'.1 r = Xh.1 r := fun r hr => by rw [hX1', sI_ne hr]
          have dd : DdR X1' Yh tp m e β := by
            obtain ⟨⟨he, hb, h5, s, b, q1, q2, q3, q4, q5⟩, f, d2, d3, d4, d5, d6⟩ := h3.2.2
            exact ⟨⟨he, by rw [x1r _ (by omega)]; exact hb, by rw [x1j _ (by omega)]; exact h5, s, b, q1, q2, by rw [x1j _ (by omega)]; exact q3, by rw [x1j _ (by omega)]; exact q4, by rw [x1j _ (by omega)]; exact q5⟩, f, d2, d3, by rw [x1j _ (by omega)]; exact d4, d5, by rw [x1j _ (by omega)]; exact d6⟩
          obtain ⟨v, X2, c3, c4⟩ := num_d (x := nI 19) hp hm dd.1 dd.nx
          have nx2 : ¬ X2.1 tp 4 = nI 0 := by rw [c4.2.2.1]; exact dd.nx
          obtain ⟨X3, c5, c6⟩ := row84_d (x := v) hp hm c4.2.2.2 nx2
          have c36 : ∀ y2, f_X7_readRow_36 σ tp X tp (nI 0) y2 = some X3 := fun y2 => by
            unfold f_X7_readRow_36
            simp only [litM]
            rw [h1, Option.bind_some, stI_t t0, ldI_t t0, ← hX1', c3, bnd2_k, ldI_t t0, if_neg nx2, c5]
          refine ⟨X3, Yh, ?_, rfl, (h3.1.lf.trans ⟨by rw [hX1']; rfl, fun r a _ => x1r r a, x1j 1 (by omega)⟩).trans (c4.trans c6).1.lf, h3.2.1.lm, Or.inr (dd.cd (c4.trans c6))⟩
          unfold f_X7_readRow f_X7_readRow_13
          simp only [litM]
          rw [grd_t t0, ldI_t t0, x10, if_neg (by decide)]
          simp only [ldR, t0, t2, hS.1, hS.2.1, if_true, Option.bind_some]
          rw [ldI_t hTb.1, c36, c36]
          split <;> rfl
      · rcases (show i = 6 ∨ i = 7 ∨ i = 8 ∨ i = 9 ∨ i = 10 ∨ (i < 4 ∨ 10 < i) by omega) with rfl | rfl | rfl | rfl | rfl | hi2
        · exact dm 0 (by omega) rfl cl
        · exact dm 1 (by omega) rfl cl
        · exact dm 2 (by omega) rfl cl
        · exact ed 0 (by omega) rfl cl
        · exact ed 1 (by omega) rfl cl
        · exact no (fun n hn => by unfold pw; split <;> omega) i4 i5 (by omega) (by omega) (by omega)
  · have md := ml _ k1
    rw [if_neg (by decide), if_neg (by decide), if_pos (by decide)] at md
    refine bad ?_ (by rw [md]; exact wrong160 _ (by decide) (by decide))
    unfold f_X7_readLine
    simp only [litM]
    rw [grd_t t0, k2 0 (by omega), Option.bind_some, if_pos rfl, k2 1 (by omega), Option.bind_some, if_pos rfl, k2 2 (by omega), Option.bind_some, if_pos rfl, k2 3 (by omega), Option.bind_some, if_pos rfl, k2 4 (by omega), Option.bind_some, if_pos rfl, k2 5 (by omega), Option.bind_some, if_pos rfl, k2 6 (by omega), Option.bind_some, if_pos rfl, ldI_t t0, d1, bnd2_k]
theorem Told.up {X Y : Mx} {tp m k k' : Nat} (h : Told X Y tp m k) (hk : k ≤ k') : Told X Y tp m k' := by
  rcases h with h | ⟨a, b, ec, c, d, e⟩
  · exact Or.inl h
  · exact Or.inr ⟨a, b, ec, c, by omega, e⟩
theorem rd_loop {σ τ : Sh} {tp m e : Nat} {β : Nat → Nat} (hp : tpOK σ tp) (hm : mdOK τ m) : ∀ (r k N M : Nat) (X Y : Mx), k + r = 700 → r < N → r < M → ((∃ st be, k ≤ st ∧ GdR X Y tp m e β st be ∧ Told X Y tp m k) ∨ DdR X Y tp m e β) → ∃ X1 Y1, f_X7_readTables_59 σ tp N X (nI k) = f_X7_readTables_90 σ tp X1 ∧ f_X10_tables_113 τ m M Y = f_X10_tables_134 τ m Y1 ∧ LF X X1 tp ∧ LM Y Y1 m ∧ ((∃ st be, GdR X1 Y1 tp m e β st be ∧ Told X1 Y1 tp m 700) ∨ DdR X1 Y1 tp m e β) := by
  have t0 := hp.1
  have m0 := hm.1
  have dead : ∀ (k N M : Nat) (X Y : Mx), DdR X Y tp m e β → ∃ X1 Y1, f_X7_readTables_59 σ tp (N + 1) X (nI k) = f_X7_readTables_90 σ tp X1 ∧ f_X10_tables_113 τ m (M + 1) Y = f_X10_tables_134 τ m Y1 ∧ LF X X1 tp ∧ LM Y Y1 m ∧ ((∃ st be, GdR X1 Y1 tp m e β st be ∧ Told X1 Y1 tp m 700) ∨ DdR X1 Y1 tp m e β) := by
    intro k N M X Y hd
    refine ⟨X, Y, ?_, ?_, LF.refl, LM.refl, Or.inr hd⟩
    · rw [f_X7_readTables_59]
      simp only [litM]
      rw [ldI_t t0, ldI_t t0, if_neg hd.nx]
      split
      · rfl
      · split <;> rfl
    · rw [f_X10_tables_113]
      simp only [litM]
      rw [m_good_f hm hd.ny, Option.bind_some, if_pos rfl]
  have stop : ∀ (k N M : Nat) (X Y : Mx) (st be : Nat), k ≤ 700 → GdR X Y tp m e β st be → Told X Y tp m k → st = e → ∃ X1 Y1, f_X7_readTables_59 σ tp (N + 1) X (nI k) = f_X7_readTables_90 σ tp X1 ∧ f_X10_tables_113 τ m (M + 1) Y = f_X10_tables_134 τ m Y1 ∧ LF X X1 tp ∧ LM Y Y1 m ∧ ((∃ st be, GdR X1 Y1 tp m e β st be ∧ Told X1 Y1 tp m 700) ∨ DdR X1 Y1 tp m e β) := by
    intro k N M X Y st be hk hG hT hst
    have tk : X.1 tp 6 = nI 0 ∧ Y.1 m 8 = nI 0 := by
      obtain ⟨r1, r2, -, -, -, -, -, r8⟩ := hG.2.2.2.2.2
      rcases r8 with ⟨-, a, b⟩ | ⟨a, -⟩ | ⟨a, -⟩ | ⟨a, -⟩
      · exact ⟨a, b⟩
      · omega
      · omega
      · omega
    refine ⟨X, Y, ?_, ?_, LF.refl, LM.refl, Or.inl ⟨st, be, hG, hT.up hk⟩⟩
    · rw [f_X7_readTables_59]
      simp only [litM]
      rw [ldI_t t0, tk.1, if_pos (show nI 0 = nI 0 from rfl)]
      split <;> rfl
    · rw [f_X10_tables_113]
      simp only [litM]
      rw [m_good_t hm hG.2.2.2.2.1, Option.bind_some, if_neg (by decide), ldI_t m0, tk.2, if_pos rfl]
  intro r
  induction r with
  | zero =>
    intro k N M X Y hk hN hM hI
    obtain ⟨N, rfl⟩ : ∃ N', N = N' + 1 := ⟨N - 1, by omega⟩
    obtain ⟨M, rfl⟩ : ∃ N', M = N' + 1 := ⟨M - 1, by omega⟩
    rcases hI with ⟨st, be, h1, hG, hT⟩ | hd
    · have := hG.1.1
      have r1 := hG.2.2.2.2.2.1
      have r2 := hG.2.2.2.2.2.2.1
      exact stop k N M X Y st be (by omega) hG hT (by omega)
    · exact dead k N M X Y hd
  | succ r ih =>
    intro k N M X Y hk hN hM hI
    obtain ⟨N, rfl⟩ : ∃ N', N = N' + 1 := ⟨N - 1, by omega⟩
    obtain ⟨M, rfl⟩ : ∃ N', M = N' + 1 := ⟨M - 1, by omega⟩
    rcases hI with ⟨st, be, h1, hG, hT⟩ | hd
    · by_cases q : st = e
      · exact stop k N M X Y st be (by omega) hG hT q
      · have tk : ¬ X.1 tp 6 = nI 0 ∧ ¬ Y.1 m 8 = nI 0 ∧ st < be := by
          obtain ⟨r1, r2, -, -, -, -, -, r8⟩ := hG.2.2.2.2.2
          rcases r8 with ⟨a, -⟩ | ⟨a, b, c, -⟩ | ⟨a, b, c, -⟩ | ⟨a, b, -, -, c⟩
          · exact absurd a q
          · exact ⟨by rw [b]; decide, by rw [c]; decide, a⟩
          · exact ⟨by rw [b]; decide, by rw [c]; decide, a⟩
          · refine ⟨by rw [b]; decide, ?_, by omega⟩
            rw [c]
            split <;> decide
        obtain ⟨X1, Y1, a1, a2, a3, a4, a5⟩ := line_both hp hm hG hT (by omega)
        have cl : f_X7_readTables_59 σ tp (N + 1) X (nI k) = f_X7_readTables_59 σ tp N X1 (nI (k + 1)) := by
          rw [f_X7_readTables_59]
          simp only [litM]
          rw [if_neg (by rw [n_le (by omega) (by omega)]; omega), ldI_t t0, if_neg tk.1, ldI_t t0, if_pos hG.2.2.2.1, a1, Option.bind_some, nI_add]
        have md : f_X10_tables_113 τ m (M + 1) Y = f_X10_tables_113 τ m M Y1 := by
          rw [f_X10_tables_113]
          simp only [litM]
          rw [m_good_t hm hG.2.2.2.2.1, Option.bind_some, if_neg (by decide), ldI_t m0, if_neg tk.2.1, a2, Option.bind_some]
        obtain ⟨X2, Y2, b1, b2, b3, b4, b5⟩ := ih (k + 1) N M X1 Y1 (by omega) (by omega) (by omega) (by
          rcases a5 with ⟨st1, be1, c1, c2, c3⟩ | a5
          · exact Or.inl ⟨st1, be1, by omega, c2, c3⟩
          · exact Or.inr a5)
        exact ⟨X2, Y2, cl.trans b1, md.trans b2, a3.trans b3, a4.trans b4, b5⟩
    · exact dead k N M X Y hd
