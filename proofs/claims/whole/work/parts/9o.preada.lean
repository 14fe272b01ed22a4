/-! ===== reading: a line that tells a column ===== -/
theorem bI_ne {b : Bool} : (bI b = nI 0) = (b = false) := bI_z
theorem told_name {X Y : Mx} {tp m nc nr d : Nat} {x : Int32} (hB : BsR X Y tp m nc nr d) : anyB (fun c => bt (X.1 (tp + 2 + 1) 0) c && decide (X.1 (tp + 2 + 1 + 1) c = x)) 9 = anyB (fun c => bt (Y.1 (m + 3) (931 + 200 * 2)) c && decide (Y.1 (m + 3) (931 + 200 * 2 + 2 + c) = x)) 9 := by
  obtain ⟨b0, b1, b2, b3, b4, b5, b6⟩ := hB.1
  refine anyB_congr (fun c hc => ?_)
  rw [← b0]
  cases e : bt (X.1 (tp + 2 + 1) 0) c with
  | false => rfl
  | true => rw [(b4 c hc e).1]
/-- a column put by both -/
theorem BsR.col {X Y : Mx} {tp m nc d t : Nat} {n : Int32} (hB : BsR X Y tp m nc 0 d) (hn : nc < 5) (ht : t < 4) : BsR (sI (sI (sI X (tp + 2 + 1) 0 (X.1 (tp + 2 + 1) 0 ||| ((1 : Int32) <<< (nI nc &&& 31)))) (tp + 2 + 1 + 1) nc n) (tp + 2 + 1 + 2) nc (nI t)) (sI (sI (sI (sI Y (m + 3) 1331 (Y.1 (m + 3) 1331 ||| ((1 : Int32) <<< (nI nc &&& 31)))) (m + 3) (1333 + nc) n) (m + 3) (1342 + nc) (nI t)) m 14 (nI (nc + 1))) tp m (nc + 1) 0 d := by
  obtain ⟨⟨b0, b1, b2, b3, b4, b5, b6⟩, h1, h2, h3, h4, h5, h6, h7, h8, h9, h10, h11, h12, h13, h14, h15, h16⟩ := hB
  have xr : ∀ r, r ≠ tp + 2 + 1 → r ≠ tp + 2 + 1 + 1 → r ≠ tp + 2 + 1 + 2 → (sI (sI (sI X (tp + 2 + 1) 0 (X.1 (tp + 2 + 1) 0 ||| ((1 : Int32) <<< (nI nc &&& 31)))) (tp + 2 + 1 + 1) nc n) (tp + 2 + 1 + 2) nc (nI t)).1 r = X.1 r := fun r a b c => by rw [sI_ne c, sI_ne b, sI_ne a]
  have yr : ∀ j, j ≠ 1331 → j ≠ 1333 + nc → j ≠ 1342 + nc → (sI (sI (sI (sI Y (m + 3) 1331 (Y.1 (m + 3) 1331 ||| ((1 : Int32) <<< (nI nc &&& 31)))) (m + 3) (1333 + nc) n) (m + 3) (1342 + nc) (nI t)) m 14 (nI (nc + 1))).1 (m + 3) j = Y.1 (m + 3) j := fun j a b c => by rw [sI_na (by omega), sI_nk c, sI_nk b, sI_nk a]
  have rows : ∀ k, k < 20 → bt (X.1 (tp + 2 + 1) 1) k = false := cnt_0 h3
  have x0 : (sI (sI (sI X (tp + 2 + 1) 0 (X.1 (tp + 2 + 1) 0 ||| ((1 : Int32) <<< (nI nc &&& 31)))) (tp + 2 + 1 + 1) nc n) (tp + 2 + 1 + 2) nc (nI t)).1 (tp + 2 + 1) 0 = X.1 (tp + 2 + 1) 0 ||| ((1 : Int32) <<< (nI nc &&& 31)) := by rw [sI_na (by omega), sI_na (by omega), sI_eq]
  have x1 : (sI (sI (sI X (tp + 2 + 1) 0 (X.1 (tp + 2 + 1) 0 ||| ((1 : Int32) <<< (nI nc &&& 31)))) (tp + 2 + 1 + 1) nc n) (tp + 2 + 1 + 2) nc (nI t)).1 (tp + 2 + 1) 1 = X.1 (tp + 2 + 1) 1 := by rw [sI_na (by omega), sI_na (by omega), sI_nk (by omega)]
  have bits : ∀ c, bt (X.1 (tp + 2 + 1) 0 ||| ((1 : Int32) <<< (nI nc &&& 31))) c = decide (c < nc + 1) := fun c => by
    rw [bt_set (by omega), h1]
    by_cases q : c = nc
    · rw [decide_eq_true q, decide_eq_true (show c < nc + 1 by omega), Bool.or_true]
    · rw [decide_eq_false q, Bool.or_false]
      by_cases q2 : c < nc
      · rw [decide_eq_true q2, decide_eq_true (show c < nc + 1 by omega)]
      · rw [decide_eq_false q2, decide_eq_false (show ¬ c < nc + 1 by omega)]
  have x2 : ∀ c, (sI (sI (sI X (tp + 2 + 1) 0 (X.1 (tp + 2 + 1) 0 ||| ((1 : Int32) <<< (nI nc &&& 31)))) (tp + 2 + 1 + 1) nc n) (tp + 2 + 1 + 2) nc (nI t)).1 (tp + 2 + 1 + 1) c = if c = nc then n else X.1 (tp + 2 + 1 + 1) c := fun c => by
    rw [sI_na (by omega)]
    by_cases q : c = nc
    · rw [q, sI_eq, if_pos rfl]
    · rw [sI_nk q, sI_na (by omega), if_neg q]
  have x3 : ∀ c, (sI (sI (sI X (tp + 2 + 1) 0 (X.1 (tp + 2 + 1) 0 ||| ((1 : Int32) <<< (nI nc &&& 31)))) (tp + 2 + 1 + 1) nc n) (tp + 2 + 1 + 2) nc (nI t)).1 (tp + 2 + 1 + 2) c = if c = nc then nI t else X.1 (tp + 2 + 1 + 2) c := fun c => by
    by_cases q : c = nc
    · rw [q, sI_eq, if_pos rfl]
    · rw [sI_nk q, sI_na (by omega), sI_na (by omega), if_neg q]
  refine ⟨⟨?_, ?_, ?_, ?_, fun c hc hb => ?_, fun k c hk hc hbk => ?_, fun k c hk hc _ => ?_⟩, fun c => by rw [x0]; exact bits c, by omega, by rw [x1]; exact h3, h4, sI_eq, by rw [sI_nk (by omega), sI_na (by omega), sI_na (by omega), sI_na (by omega)]; exact h6, by rw [xr tp (by omega) (by omega) (by omega)]; exact h7, by rw [xr tp (by omega) (by omega) (by omega)]; exact h8, by rw [sI_nk (by omega), sI_na (by omega), sI_na (by omega), sI_na (by omega)]; exact h9, h10, by rw [xr _ (by omega) (by omega) (by omega)]; exact h11, by rw [yr _ (by omega) (by omega) (by omega)]; exact h12, fun i hi => ?_, by rw [yr _ (by omega) (by omega) (by omega)]; exact h14, by rw [yr _ (by omega) (by omega) (by omega)]; exact h15, fun i hi => by rw [yr _ (by omega) (by omega) (by omega)]; exact h16 i hi⟩
  · rw [x0, sI_na (by omega), sI_nk (by omega), sI_nk (by omega), sI_eq, b0]
  · rw [x1, yr _ (by omega) (by omega) (by omega)]; exact b1
  · rw [x0]; exact low_set b2 (by omega) (by omega)
  · rw [x1]; exact b3
  · rw [x0, bits] at hb
    have hb := of_decide_eq_true hb
    rw [x2, x3]
    by_cases q : c = nc
    · subst q
      rw [if_pos rfl, if_pos rfl]
      refine ⟨?_, ?_, t, ht, rfl⟩
      · rw [show 931 + 200 * 2 + 2 + c = 1333 + c by omega, sI_na (by omega), sI_nk (by omega), sI_eq]
      · rw [show 931 + 200 * 2 + 11 + c = 1342 + c by omega, sI_na (by omega), sI_eq]
    · rw [if_neg q, if_neg q, yr _ (by omega) (by omega) (by omega), yr _ (by omega) (by omega) (by omega)]
      exact b4 c hc (by rw [h1]; exact decide_eq_true (by omega))
  · rw [x1, rows k hk] at hbk; cases hbk
  · rw [xr _ (by omega) (by omega) (by omega)]
    exact b6 k c hk hc (Or.inl (rows k hk))
  · obtain ⟨kd, f, q, g1, g2, g3, g4, g5, g6, g7, g8, g9, g10⟩ := h13 i hi
    exact ⟨kd, f, q, g1, g2, g3, by rw [xr _ (by omega) (by omega) (by omega)]; exact g4, by rw [xr _ (by omega) (by omega) (by omega)]; exact g5, by rw [xr _ (by omega) (by omega) (by omega)]; exact g6, by rw [yr _ (by omega) (by omega) (by omega)]; exact g7, by rw [yr _ (by omega) (by omega) (by omega)]; exact g8, fun e => by rw [yr _ (by omega) (by omega) (by omega)]; exact g9 e, g10⟩
theorem col_line {σ τ : Sh} {X Y : Mx} {tp m e st be k nc nr d : Nat} {β : Nat → Nat} (hp : tpOK σ tp) (hm : mdOK τ m) (h : GdR X Y tp m e β st be) (hB : BsR X Y tp m nc nr d) : LnR X Y tp m e β be k (f_X7_readColumn σ X tp) (f_X10_line_30 τ m Y m (bI (decide (0 < nr)))) := by
  have t0 := hp.1
  have t2 : shR σ tp 2 = some (tp + 2) := hp.2.2.1
  have m0 := hm.1
  have hS := told_sk hp
  have hT : tabOK σ (tp + 2 + 1) := hS.2.2.2.2.2.2.2.2.1
  obtain ⟨-, g1, g2, g3, g4, g5, g6, g7, g8, g9, -⟩ := id hB
  have hcl : f_X7_readColumn σ X tp = f_X7_readColumn_44 σ tp (nI nc) X tp (bI (!decide (0 < nr))) (bI (decide (nc < 5))) := by
    have e34 : ∀ y, f_X7_readColumn_34 σ tp (nI nc) X tp y = f_X7_readColumn_44 σ tp (nI nc) X tp y (bI (decide (nc < 5))) := fun y => by
      unfold f_X7_readColumn_34
      simp only [litM]
      by_cases q2 : nc < 5
      · rw [if_neg (by rw [n_le (by omega) (by omega)]; omega), decide_eq_true q2]; rfl
      · rw [if_pos (by rw [n_le (by omega) (by omega)]; omega), decide_eq_false q2]; rfl
    unfold f_X7_readColumn f_X7_readColumn_33
    simp only [litM]
    rw [grd_t t0]
    simp only [ldR, t0, t2, hS.1, hS.2.1, if_true, Option.bind_some]
    rw [ldI_t hT.1, ldI_t t0, ldI_t t0, g7, g8, s_bitCount (fun c hc => by rw [g1]; exact decide_eq_false (by omega)), bt_full g1 (by omega), e34, e34]
    by_cases q : 0 < nr
    · rw [decide_eq_true q, if_neg (by decide)]; rfl
    · rw [decide_eq_false q, if_pos bI_f]; rfl
  have hmd : f_X10_line_30 τ m Y m (bI (decide (0 < nr))) = f_X10_line_43 τ m Y m (bI (!(!decide (0 < nr)))) (bI (!decide (nc < 5))) := by
    unfold f_X10_line_30
    simp only [litM]
    rw [ldI_t m0, g5, Bool.not_not]
    by_cases q : nc = 5
    · rw [if_pos (by rw [q]), decide_eq_false (show ¬ nc < 5 by omega)]; rfl
    · rw [if_neg (nI_ne q (by omega) (by omega)), decide_eq_true (show nc < 5 by omega)]; rfl
  obtain ⟨X1, Y1, a1, hh⟩ := head_both (b1 := !decide (0 < nr)) (b2 := decide (nc < 5)) hp hm h
  rcases hh with ⟨a2, ⟨a3, a4, st1, be1, a5, a6⟩, a7, a8⟩ | ⟨a2, a3, a4, a5⟩
  · have nr0 : nr = 0 := by
      by_cases q : 0 < nr
      · rw [decide_eq_true q] at a7; cases a7
      · omega
    subst nr0
    have nc5 : nc < 5 := of_decide_eq_true a8
    have hB1 := hB.tk a3 a4
    have r1 := a6.2.2.2.2.2.1
    have mdl : f_X10_line_30 τ m Y m (bI (decide (0 < 0))) = (f_X10_readsColumn τ Y1 m).bind fun X5 => f_X10_line_188 τ m X5 := by
      rw [hmd]
      unfold f_X10_line_43
      simp only [litM]
      rw [a2, bnd2_k, if_neg (by decide)]
    -- what the class does behind its head
    have c44 : f_X7_readColumn_44 σ tp (nI nc) X tp (bI (!decide (0 < 0))) (bI (decide (nc < 5))) = bnd2 (f_X7_takeName σ X1 tp) fun v6 X5 => (if X5.1 tp 4 = nI 0 then (if anyB (fun c => bt (X5.1 (tp + 2 + 1) 0) c && decide (X5.1 (tp + 2 + 1 + 1) c = v6)) 9 = false then f_X7_readColumn_85 σ tp (nI nc) v6 X5 else bnd2 (f_X7_fail σ X5 tp (nI 4) (X1.1 tp 7)) fun v14 X13 => f_X7_readColumn_85 σ tp (nI nc) v6 X13) else f_X7_readColumn_85 σ tp (nI nc) v6 X5) := by
      unfold f_X7_readColumn_44
      simp only [litM]
      rw [a1, Option.bind_some, ldI_t t0]
      refine congrArg (fun z => bnd2 (f_X7_takeName σ X1 tp) z) (funext fun v6 => funext fun X5 => ?_)
      rw [ldI_t t0]
      simp only [ldR, t0, t2, hS.1, hS.2.1, if_true, Option.bind_some]
      rw [s_hasName hT, Option.bind_some]
      refine ifc rfl (ifc bI_z rfl rfl) rfl
    rcases name_both hp hm a6 with ⟨n, X2, Y2, n1, n2, n3, n4, n5, st2, be2, n6, n7⟩ | ⟨v, u, X2, Y2, n1, n2, n3, n4, n5⟩
    · rw [n1, bnd2_k, if_pos n7.2.2.2.1] at c44
      have hB2 := hB1.tk n4 n5
      have r2 := n7.2.2.2.2.2.1
      have md1 : f_X10_readsColumn τ Y1 m = (if anyB (fun c => bt (Y1.1 (m + 3) (931 + 200 * 2)) c && decide (Y1.1 (m + 3) (931 + 200 * 2 + 2 + c) = n)) 9 = false then f_X10_readsColumn_34 τ m (nI nc) n Y1 else (f_X10_wrong τ Y1 m (nI 4)).bind fun X10 => f_X10_readsColumn_34 τ m (nI nc) n X10) := by
        unfold f_X10_readsColumn
        simp only [litM]
        rw [grd_t m0, ldI_t m0, hB1.2.2.2.2.2.1, n2, bnd2_k, m_good_t hm a6.2.2.2.2.1, Option.bind_some, if_neg (by decide), s10_hasName hm (by omega) (by omega), Option.bind_some]
        exact ifc bI_z rfl rfl
      rw [told_name hB2, n5.2.1 (m + 3) (by omega)] at c44
      cases eN : anyB (fun c => bt (Y1.1 (m + 3) (931 + 200 * 2)) c && decide (Y1.1 (m + 3) (931 + 200 * 2 + 2 + c) = n)) 9 with
      | true =>
        rw [eN, if_neg (by decide), c_fail_g hp n7.2.2.2.1, bnd2_k] at c44
        rw [eN, if_neg (by decide), m_wrong_g hm a6.2.2.2.2.1, Option.bind_some] at md1
        have dd : DdR (sI (sI X2 tp 4 (nI 4)) tp 3 (X1.1 tp 7)) (sI (sI Y1 m 3 (nI 4)) m 4 (Y1.1 m 9)) tp m e β := by
          rw [a6.2.2.2.2.2.2.2.1, a6.2.2.2.2.2.2.2.2.2.1]
          exact GdR.die (st := st2) (be := be2) n7.rd (by omega) (by omega)
        obtain ⟨X3, q1, q2⟩ := col85_d (x := nI nc) (y := n) hp hm dd.1 dd.nx
        refine ⟨X3, sI (sI Y1 m 3 (nI 4)) m 4 (Y1.1 m 9), by rw [hcl, c44, q1], ?_, ((a3.trans n4).trans (TkF.die.trans q2.1)).lf, (a4.trans MkF.die).lm, Or.inr (dd.cd q2)⟩
        rw [mdl, md1]
        unfold f_X10_readsColumn_34
        simp only [litM]
        rw [m_good_f hm dd.ny, Option.bind_some, if_pos rfl, Option.bind_some, line188_d hm dd.ny]
      | false =>
        rw [eN, if_pos rfl] at c44 md1
        have md2 : f_X10_readsColumn_34 τ m (nI nc) n Y1 = bnd2 (f_X10_typeOf τ Y2 m) fun v7 X6 => (f_X10_isGood τ X6 m).bind fun v9 => (if v9 = nI 0 then some X6 else ldR τ 8 m 17 fun b10 => ldA τ X6 10 b10 (nI 1331) fun v11 => stA τ X6 10 b10 (nI 1331) (v11 ||| (nI 1 <<< (nI nc &&& nI 31))) fun X12 => ldR τ 8 m 17 fun b13 => stA τ X12 10 b13 (nI 1333 + nI nc) n fun X14 => ldR τ 8 m 17 fun b15 => stA τ X14 10 b15 (nI 1342 + nI nc) v7 fun X16 => ldI τ X16 8 m 14 fun v17 => stI τ X16 8 m 14 (v17 + nI 1) fun X18 => some X18) := by
          unfold f_X10_readsColumn_34
          simp only [litM]
          rw [m_good_t hm a6.2.2.2.2.1, Option.bind_some, if_neg (by decide), n3, Option.bind_some]
        rcases type_both hp hm n7 with ⟨t, X3, Y3, p0, p1, p2, p3, p4, st3, be3, p5, p6⟩ | ⟨v, u, X3, Y3, p1, p2, p3, p4, p5⟩
        · have hB3 := hB2.tk p3 p4
          have r3 := p6.2.2.2.2.2.1
          obtain ⟨Y4, hY4⟩ : ∃ Y4, Y4 = sI (sI (sI (sI Y3 (m + 3) 1331 (Y3.1 (m + 3) 1331 ||| ((1 : Int32) <<< (nI nc &&& 31)))) (m + 3) (1333 + nc) n) (m + 3) (1342 + nc) (nI t)) m 14 (nI (nc + 1)) := ⟨_, rfl⟩
          have md3 : f_X10_readsColumn_34 τ m (nI nc) n Y1 = some Y4 := by
            rw [md2, p2, bnd2_k, m_good_t hm p6.2.2.2.2.1, Option.bind_some, if_neg (by decide)]
            obtain ⟨m0, m1, m2, m3, m4, m5, m6, m7, m8, m9, m10, m11, m12, m13, m14, m15, m16, m17, mq1, mq2, mq3, mq4, mq5, mq6, mq7, mq8, mq9, mq10, mq11, mq12, mq13, mq14, mq15, mq16, mq17, mn1, mn2, mn3, mn4, mn5, mn6, mn7, mn8, mn9, mn10, mn11, mn12, mn13, mn14, mn15, mn16, mn17⟩ := hm
            simp only [ldR, m0, m3, if_true, Option.bind_some, nI_add]
            rw [ldA_t mq3 (by omega) (by omega), stA_t mq3 (by omega) (by omega), stA_t mq3 (by omega) (by omega), stA_t mq3 (by omega) (by omega), ldI_t m0, sI_na (by omega), sI_na (by omega), sI_na (by omega), hB3.2.2.2.2.2.1, stI_t m0, nI_add, hY4]
            rfl
          have g4 : GdR X3 Y4 tp m e β st3 be3 := p6.fr rfl (fun _ _ _ => rfl) (by rw [hY4, sI_ne (by omega), sI_ne (by omega), sI_ne (by omega), sI_ne (by omega)]) (fun j hj => by rw [hY4, sI_nk (by omega), sI_na (by omega), sI_na (by omega), sI_na (by omega)]) (by rw [hY4]; rfl)
          have lmY : LM Y3 Y4 m := by
            rw [hY4]
            refine ⟨fun _ _ => rfl, fun r a b => by rw [sI_ne a, sI_ne b, sI_ne b, sI_ne b], fun j hj => by rw [sI_nk (by omega), sI_na (by omega), sI_na (by omega), sI_na (by omega)], fun j hj => by rw [sI_na (by omega), sI_nk (by omega), sI_nk (by omega), sI_nk (by omega)]⟩
          obtain ⟨X5, Y5, s1, s2, hs⟩ := semi_both hp hm g4
          have c85 : f_X7_readColumn_85 σ tp (nI nc) n X2 = if X5.1 tp 4 = nI 0 then (f_X6_putColumn σ X5 (tp + 2 + 1) (nI nc) n (nI t)).bind fun X10 => some X10 else some X5 := by
            unfold f_X7_readColumn_85
            simp only [litM]
            rw [p1, bnd2_k, s1, Option.bind_some, ldI_t t0]
            simp only [ldR, t0, t2, hS.1, hS.2.1, if_true, Option.bind_some]
          have fc : f_X7_readColumn σ X tp = if X5.1 tp 4 = nI 0 then (f_X6_putColumn σ X5 (tp + 2 + 1) (nI nc) n (nI t)).bind fun X10 => some X10 else some X5 := by rw [hcl, c44, c85]
          have fm : f_X10_line_30 τ m Y m (bI (decide (0 < 0))) = some Y5 := by rw [mdl, md1, md3, Option.bind_some, s2]
          rcases hs with ⟨⟨s3, s4, st4, be4, s5, s6⟩, -⟩ | ⟨⟨s3, s4, s5⟩, -, -⟩
          · rw [if_pos s6.2.2.2.1, s_putColumn hT (by omega), Option.bind_some] at fc
            have hcol := hB3.col (n := n) nc5 p0
            rw [← hY4] at hcol
            have hb5 : BsR (sI (sI (sI X5 (tp + 2 + 1) 0 (X5.1 (tp + 2 + 1) 0 ||| ((1 : Int32) <<< (nI nc &&& 31)))) (tp + 2 + 1 + 1) nc n) (tp + 2 + 1 + 2) nc (nI t)) Y5 tp m (nc + 1) 0 d := by
              refine hcol.tk ⟨s3.1, fun r hr => ?_, fun j a b c d e => ?_⟩ s4
              · have e1 := s3.2.1 (tp + 2 + 1) (by omega)
                have e2 := s3.2.1 r hr
                unfold sI
                simp only [e1, e2]
              · rw [sI_na (by omega), sI_na (by omega), sI_na (by omega), sI_na (by omega), sI_na (by omega), sI_na (by omega)]
                exact s3.2.2 j a b c d e
            refine ⟨_, Y5, fc, fm, ?_, ((a4.trans (n5.trans p4)).lm.trans lmY).trans s4.lm, Or.inl ⟨st4, be4, by omega, ?_, Or.inl ⟨nc + 1, 0, d, hb5⟩⟩⟩
            · refine (a3.trans (n4.trans (p3.trans s3))).lf.trans ⟨rfl, fun r a b => by rw [sI_ne (by omega), sI_ne (by omega), sI_ne (by omega)], by rw [sI_na (by omega), sI_na (by omega), sI_na (by omega)]⟩
            · exact s6.fr (by rw [sI_ne (by omega), sI_ne (by omega), sI_ne (by omega)]) (fun j _ _ => by rw [sI_na (by omega), sI_na (by omega), sI_na (by omega)]) rfl (fun _ _ => rfl) rfl
          · rw [if_neg s5.nx] at fc
            exact ⟨X5, Y5, fc, fm, (a3.trans (n4.trans (p3.trans s3))).lf, ((a4.trans (n5.trans p4)).lm.trans lmY).trans s4.lm, Or.inr s5⟩
        · obtain ⟨X4, q1, q2⟩ := semi_d hp hm p5.1 p5.nx
          refine ⟨X4, Y3, ?_, ?_, (a3.trans (n4.trans (p3.trans q2.1))).lf, (a4.trans (n5.trans p4)).lm, Or.inr (p5.cd q2)⟩
          · rw [hcl, c44]
            unfold f_X7_readColumn_85
            simp only [litM]
            rw [p1, bnd2_k, q1, Option.bind_some, ldI_t t0, if_neg (by rw [q2.2.2.1]; exact p5.nx)]
          · rw [mdl, md1, md2, p2, bnd2_k, m_good_f hm p5.ny, Option.bind_some, if_pos rfl, Option.bind_some, line188_d hm p5.ny]
    · rw [n1, bnd2_k, if_neg n5.nx] at c44
      obtain ⟨X3, q1, q2⟩ := col85_d (x := nI nc) (y := v) hp hm n5.1 n5.nx
      refine ⟨X3, Y2, by rw [hcl, c44, q1], ?_, (a3.trans (n3.trans q2.1)).lf, (a4.trans n4).lm, Or.inr (n5.cd q2)⟩
      rw [mdl]
      unfold f_X10_readsColumn f_X10_readsColumn_34
      simp only [litM]
      rw [grd_t m0, ldI_t m0, n2, bnd2_k, m_good_f hm n5.ny, Option.bind_some, if_pos rfl, Option.bind_some, if_pos rfl, Option.bind_some, line188_d hm n5.ny]
  · obtain ⟨X2, c1, c2⟩ := col44_d (x := nI nc) hp hm a1 a5.1 a5.nx
    refine ⟨X2, Y1, hcl.trans c1, ?_, (a3.trans c2.1).lf, a4.lm, Or.inr (a5.cd c2)⟩
    rw [hmd]
    unfold f_X10_line_43
    simp only [litM]
    rw [a2, bnd2_k, if_pos rfl, line188_d hm a5.ny]
