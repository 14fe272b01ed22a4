theorem row_line {σ τ : Sh} {X Y : Mx} {tp m e st be k nc nr d : Nat} {β : Nat → Nat} (hp : tpOK σ tp) (hm : mdOK τ m) (h : GdR X Y tp m e β st be) (hB : BsR X Y tp m nc nr d) : LnR X Y tp m e β be k (f_X7_readRow σ X tp) (f_X10_line_74 τ m Y m (nI 0)) := by
  have t0 := hp.1
  have t2 : shR σ tp 2 = some (tp + 2) := hp.2.2.1
  have m0 := hm.1
  have hS := told_sk hp
  have hT : tabOK σ (tp + 2 + 1) := hS.2.2.2.2.2.2.2.2.1
  obtain ⟨hTb, g1, g2, g3, g4, g5, g6, g7, g8, g9, g10, g11, g12, -⟩ := id hB
  have hcl : f_X7_readRow σ X tp = f_X7_readRow_36 σ tp X tp (bI true) (bI (decide (nr < 12))) := by
    unfold f_X7_readRow f_X7_readRow_13
    simp only [litM]
    rw [grd_t t0, ldI_t t0, g8, if_pos rfl]
    simp only [ldR, t0, t2, hS.1, hS.2.1, if_true, Option.bind_some]
    rw [ldI_t hT.1, s_bitCount hTb.2.2.2.1, g3]
    by_cases q : nr < 12
    · rw [if_neg (by rw [n_le (by omega) (by omega)]; omega), decide_eq_true q]; rfl
    · rw [if_pos (by rw [n_le (by omega) (by omega)]; omega), decide_eq_false q]; rfl
  have hmd : f_X10_line_74 τ m Y m (nI 0) = f_X10_line_88 τ m Y m (bI (!true)) (bI (!decide (nr < 12))) := by
    unfold f_X10_line_74
    simp only [litM]
    rw [ldI_t m0, g6]
    by_cases q : nr = 12
    · rw [if_pos (by rw [q]), decide_eq_false (show ¬ nr < 12 by omega)]; rfl
    · rw [if_neg (nI_ne q (by omega) (by omega)), decide_eq_true (show nr < 12 by omega)]; rfl
  obtain ⟨X1, Y1, a1, hh⟩ := head_both (b1 := true) (b2 := decide (nr < 12)) hp hm h
  obtain ⟨X1', hX1'⟩ : ∃ X1', X1' = sI X1 tp 9 (nI 1) := ⟨_, rfl⟩
  have lx1 : LF X1 X1' tp := by rw [hX1']; exact ⟨rfl, fun r a _ => sI_ne a, sI_nk (by omega)⟩
  have x1j : ∀ j, j ≠ 9 → X1'.1 tp j = X1.1 tp j := fun j hj => by rw [hX1', sI_nk hj]
  have x1r : ∀ r, r ≠ tp → X1'.1 r = X1.1 r := fun r hr => by rw [hX1', sI_ne hr]
  have c36 : f_X7_readRow_36 σ tp X tp (bI true) (bI (decide (nr < 12))) = bnd2 (f_X7_takeNumber σ X1' tp (nI 19)) fun v7 X6 => (if X6.1 tp 4 = nI 0 then (if inB 20 (X6.1 (tp + 2 + 1) 1) v7 = false then f_X7_readRow_84 σ tp v7 X6 else bnd2 (f_X7_fail σ X6 tp (nI 4) (X1'.1 tp 7)) fun v15 X14 => f_X7_readRow_84 σ tp v7 X14) else f_X7_readRow_84 σ tp v7 X6) := by
    unfold f_X7_readRow_36
    simp only [litM]
    rw [a1, Option.bind_some, stI_t t0, ldI_t t0, ← hX1']
    refine congrArg (fun z => bnd2 (f_X7_takeNumber σ X1' tp (nI 19)) z) (funext fun v7 => funext fun X6 => ?_)
    rw [ldI_t t0]
    simp only [ldR, t0, t2, hS.1, hS.2.1, if_true, Option.bind_some]
    rw [s_hasRow hT, Option.bind_some]
    refine ifc rfl (ifc bI_z rfl rfl) rfl
  rcases hh with ⟨a2, ⟨a3, a4, st1, be1, a5, a6⟩, -, a8⟩ | ⟨a2, a3, a4, a5⟩
  · have n12 : nr < 12 := of_decide_eq_true a8
    have hB1 := hB.tk a3 a4
    have r1 := a6.2.2.2.2.2.1
    have g1' : GdR X1' Y1 tp m e β st1 be1 := a6.fr (x1r _ (by omega)) (fun j _ _ => x1j j (by omega)) rfl (fun _ _ => rfl) rfl
    have mdl : f_X10_line_74 τ m Y m (nI 0) = (f_X10_readsRow τ Y1 m).bind fun X5 => f_X10_line_188 τ m X5 := by
      rw [hmd]
      unfold f_X10_line_88
      simp only [litM]
      rw [a2, bnd2_k, if_neg (by decide)]
    rcases num_both (lim := 19) hp hm g1' (by omega) with ⟨n, X2, Y2, n0, n1, n2, n3, n4, n5, st2, be2, n6, n7⟩ | ⟨v, u, X2, Y2, n1, n2, n3, n4, n5⟩
    · rw [n1, bnd2_k, if_pos n7.2.2.2.1, inB_n (by omega) (by omega)] at c36
      have r2 := n7.2.2.2.2.2.1
      have row0 : Y1.1 (m + 3) (931 + 200 * 2 + 1) = X2.1 (tp + 2 + 1) 1 := by
        rw [n4.2.1 _ (by omega), x1r _ (by omega)]; exact hB1.1.2.1.symm
      have md1 : f_X10_readsRow τ Y1 m = (if bt (X2.1 (tp + 2 + 1) 1) n = false then f_X10_readsRow_31 τ m (nI n) Y1 else (f_X10_wrong τ Y1 m (nI 4)).bind fun X9 => f_X10_readsRow_31 τ m (nI n) X9) := by
        unfold f_X10_readsRow
        simp only [litM]
        rw [grd_t m0, n2, bnd2_k, m_good_t hm a6.2.2.2.2.1, Option.bind_some, if_neg (show ¬ nI 1 = nI 0 by decide), s10_hasRow hm (by omega) (by omega), Option.bind_some, row0, inB_n (by omega) (by omega)]
        exact ifc bI_z rfl rfl
      cases eN : bt (X2.1 (tp + 2 + 1) 1) n with
      | true =>
        rw [eN, if_neg (by decide), c_fail_g hp n7.2.2.2.1, bnd2_k] at c36
        rw [eN, if_neg (by decide), m_wrong_g hm a6.2.2.2.2.1, Option.bind_some] at md1
        have dd : DdR (sI (sI X2 tp 4 (nI 4)) tp 3 (X1'.1 tp 7)) (sI (sI Y1 m 3 (nI 4)) m 4 (Y1.1 m 9)) tp m e β := by
          rw [g1'.2.2.2.2.2.2.2.1, g1'.2.2.2.2.2.2.2.2.2.1]
          exact GdR.die (st := st2) (be := be2) n7.rd (by omega) (by omega)
        obtain ⟨X3, q1, q2⟩ := row84_d (x := nI n) hp hm dd.1 dd.nx
        refine ⟨X3, sI (sI Y1 m 3 (nI 4)) m 4 (Y1.1 m 9), by rw [hcl, c36, q1], ?_, (a3.lf.trans lx1).trans (n4.trans (TkF.die.trans q2.1)).lf, (a4.trans MkF.die).lm, Or.inr (dd.cd q2)⟩
        rw [mdl, md1]
        unfold f_X10_readsRow_31
        simp only [litM]
        rw [m_good_f hm dd.ny, Option.bind_some, if_pos rfl, Option.bind_some, line188_d hm dd.ny]
      | false =>
        rw [eN, if_pos rfl] at c36 md1
        have md2 : f_X10_readsRow_31 τ m (nI n) Y1 = f_X10_readsRow_45 τ m (nI n) FU Y2 (nI 0) := by
          unfold f_X10_readsRow_31
          simp only [litM]
          rw [m_good_t hm a6.2.2.2.2.1, Option.bind_some, if_neg (by decide), n3, Option.bind_some]
        have c84 : f_X7_readRow_84 σ tp (nI n) X2 = f_X7_readRow_104 σ tp (nI n) FU (sI X2 (tp + 2 + 1) 1 (X2.1 (tp + 2 + 1) 1 ||| ((1 : Int32) <<< (nI n &&& 31)))) (nI 0) := by
          unfold f_X7_readRow_84 f_X7_readRow_102
          simp only [litM]
          rw [ldI_t t0, if_pos n7.2.2.2.1]
          simp only [ldR, t0, t2, hS.1, hS.2.1, if_true, Option.bind_some]
          rw [s_putRow hT (by omega), Option.bind_some]
          rfl
        have hBb : BsR (sI X2 tp 9 (bI (decide (0 < nr)))) Y2 tp m nc nr d := by
          refine hB1.tk ⟨n4.1.trans (by rw [hX1']; rfl), fun r hr => by rw [sI_ne hr, n4.2.1 r hr, x1r r hr], fun j a b c d e => ?_⟩ n5
          by_cases q : j = 9
          · rw [q, sI_eq]; exact hB1.2.2.2.2.2.2.2.1.symm
          · rw [sI_nk q, n4.2.2 j a b c d e, x1j j q]
        have x29 : X2.1 tp 9 = nI 1 := by rw [n4.2.2 9 (by omega) (by omega) (by omega) (by omega) (by omega), hX1', sI_eq]
        have fin := row_loop (k := k) hp hm (show n < 20 by omega) hBb x29 n12 eN nc 0 FU FU (sI X2 (tp + 2 + 1) 1 (X2.1 (tp + 2 + 1) 1 ||| ((1 : Int32) <<< (nI n &&& 31)))) Y2 st2 be2 (by omega) (by rw [FU_40000]; omega) (by rw [FU_40000]; omega) (n7.fr (sI_ne (by omega)) (fun j _ _ => sI_na (by omega)) rfl (fun _ _ => rfl) rfl) ⟨rfl, fun r a b c => sI_ne b, fun j _ _ _ _ _ => sI_na (by omega), sI_nk (by omega), sI_eq, fun j _ _ => sI_na (by omega), fun c hc => absurd hc (Nat.not_lt_zero _), fun _ _ => rfl, fun _ _ _ => rfl, fun _ _ _ _ => rfl, fun _ _ => rfl⟩
        obtain ⟨X3, Y3, f1, f2, f3, f4, f5⟩ := fin
        have lx2 : LF X2 (sI X2 (tp + 2 + 1) 1 (X2.1 (tp + 2 + 1) 1 ||| ((1 : Int32) <<< (nI n &&& 31)))) tp := ⟨rfl, fun r a b => sI_ne (by omega), sI_na (by omega)⟩
        refine ⟨X3, Y3, by rw [hcl, c36, c84, f1], by rw [mdl, md1, md2, f2], ((a3.lf.trans lx1).trans (n4.lf.trans lx2)).trans f3, (a4.trans n5).lm.trans f4, ?_⟩
        rcases f5 with ⟨s, b, f6, f7⟩ | f5
        · exact Or.inl ⟨s, b, by omega, f7⟩
        · exact Or.inr f5
    · rw [n1, bnd2_k, if_neg n5.nx] at c36
      obtain ⟨X3, q1, q2⟩ := row84_d (x := v) hp hm n5.1 n5.nx
      refine ⟨X3, Y2, by rw [hcl, c36, q1], ?_, (a3.lf.trans lx1).trans (n3.trans q2.1).lf, (a4.trans n4).lm, Or.inr (n5.cd q2)⟩
      rw [mdl]
      unfold f_X10_readsRow f_X10_readsRow_31
      simp only [litM]
      rw [grd_t m0, n2, bnd2_k, m_good_f hm n5.ny, Option.bind_some, if_pos rfl, Option.bind_some, if_pos rfl, Option.bind_some, line188_d hm n5.ny]
  · have rd1 : RdC X1' tp e β := by
      obtain ⟨he, hb, h5, s, b, q1, q2, q3, q4, q5⟩ := a5.1
      exact ⟨he, by rw [x1r _ (by omega)]; exact hb, by rw [x1j _ (by omega)]; exact h5, s, b, q1, q2, by rw [x1j _ (by omega)]; exact q3, by rw [x1j _ (by omega)]; exact q4, by rw [x1j _ (by omega)]; exact q5⟩
    have nx1 : ¬ X1'.1 tp 4 = nI 0 := by rw [x1j _ (by omega)]; exact a5.nx
    obtain ⟨v, X2, c1, c2⟩ := num_d (x := nI 19) hp hm rd1 nx1
    have nx2 : ¬ X2.1 tp 4 = nI 0 := by rw [c2.2.2.1]; exact nx1
    obtain ⟨X3, c3, c4⟩ := row84_d (x := v) hp hm c2.2.2.2 nx2
    rw [c1, bnd2_k, if_neg nx2, c3] at c36
    have dd : DdR X1' Y1 tp m e β := by
      obtain ⟨-, f, d2, d3, d4, d5, d6⟩ := a5
      exact ⟨rd1, f, d2, d3, by rw [x1j _ (by omega)]; exact d4, d5, by rw [x1j _ (by omega)]; exact d6⟩
    refine ⟨X3, Y1, hcl.trans c36, ?_, (a3.lf.trans lx1).trans (c2.trans c4).1.lf, a4.lm, Or.inr (dd.cd (c2.trans c4))⟩
    rw [hmd]
    unfold f_X10_line_88
    simp only [litM]
    rw [a2, bnd2_k, if_pos rfl, line188_d hm a5.ny]
