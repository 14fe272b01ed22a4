theorem alone_rel {σ τ : Sh} {X Y Ym : Mx} {q s L R g m t w n : Nat} {cc : Nat → Int32} (hq : quOK σ q) (hs : stOK σ s L R) (hg : mgOK σ g) (hm : mdOK τ m) (hsq : s + 16 < q) (hgq : g + 9 < q) (ht : t < 2) (hw : w < 3) (hS : StR X.1 s L R (Y.1 (m + 3)) 0) (k1 : f_X10_merges τ (sI Y m 0 (nI 0)) m (nI 0) = some Ym) (k2 : FrY (sI Y m 0 (nI 0)) Ym m) (hR : MR n cc (X.1 L 0) (X.1 R 0) X.1 g Ym.1 m) :
    ∃ X1 Y1, ((f_X3_pickChanged σ X q s g (nI t)).bind fun X12 => f_X3_findAlone σ X12 q s (nI t)) = some X1 ∧ f_X10_alone τ Y m (nI t) (nI w) = some (X1.1 (q + 29) (3 * t + w), Y1) ∧ FndF X X1 q t ∧ FrQ Y Y1 m ∧ Y1.1 m 0 = nI 0 := by
  have qs := hq.2.2.2.2.2.2.1
  have q0 := hq.1
  have m0 := hm.1
  have htt := sd_in qs t
  have hsd := sd_in hs t
  have lr := hs.lr
  have z0 : (sI Y m 0 (nI 0)).1 m 0 = nI 0 := sI_eq
  have ym3 : Ym.1 (m + 3) = Y.1 (m + 3) := by rw [k2.2.1 (m + 3) (by omega) (by omega), sI_ne (by omega)]
  have ym0 : Ym.1 m 0 = nI 0 := by rw [k2.2.2 0 (by omega) (by omega) (by omega)]; exact z0
  obtain ⟨Xp, Yp, p, e1, e2, hp, h5, x2, xq, y2, yq, v, hv, hinc⟩ := pick_both hq hs hg hm hsq hgq ht (by rw [ym3]; exact hS) hR
  obtain ⟨Xs, c1, c2, c3⟩ := st_copy (X := Xp) qs hs (Or.inr (by omega))
  have xp : ∀ r, r < q → Xp.1 r = X.1 r := fun r hr => xq r (by omega) (by omega)
  have xs : ∀ r, r < q → Xs.1 r = X.1 r := fun r hr => by rw [c2.2 r (by omega)]; exact xp r hr
  have yp3 : Yp.1 (m + 3) = Y.1 (m + 3) := by rw [yq _ (by omega), ym3]
  have hSp : StR Xp.1 s L R (Yp.1 (m + 3)) 0 := by
    rw [yp3]
    exact hS.fr lr (fun r h1 h2 => xp r (by omega)) (fun _ _ => rfl)
  have hSs : StR Xs.1 s L R (Yp.1 (m + 3)) 0 := by
    rw [yp3]
    exact hS.fr lr (fun r h1 h2 => xs r (by omega)) (fun _ _ => rfl)
  have h5s : Xs.1 q 5 = nI p := by rw [c2.2 q (by omega)]; exact h5
  have hvs : ∀ i, i < p → v i < 180 ∧ Xs.1 (q + 30) i = nI (v i) ∧ Yp.1 (m + 13) i = nI (v i) ∧ bt (Xs.1 (sd t L R) 1) (v i / 9) = true ∧ bt (Xs.1 (sd t L R) 0) (v i % 9) = true := fun i hi => by
    rw [c2.2 (q + 30) (by omega), xs _ (by omega)]
    exact hv i hi
  obtain ⟨w1, w2, w3⟩ := pw2 p hp
  obtain ⟨n1, n2, ⟨S, f, mo, be⟩, ⟨T, x4, x5⟩, eF, eG, hT, hQ, -, hT0, hst⟩ := up_loop2 (fun N (S : Mx × Int32 × Int32 × Int32) b => f_X3_findAlone_21 σ q s (nI t) N S.1 S.2.1 S.2.2.1 S.2.2.2 (nI b)) (fun N (T : St3) b => f_X10_alone_39 τ m (nI t) (nI w) (nI p) N T.1 T.2.1 T.2.2 (nI b)) (2 ^ p) (fun b S T => AlI Xs Yp q m (sd t (q + 1 + 5) (q + 1 + 9)) p v b S.1 T.1 S.2.1 S.2.2.1 S.2.2.2 T.2.1 T.2.2) (by
    rintro N M b ⟨S, f, mo, be⟩ ⟨T, x4, x5⟩ hb hI
    obtain ⟨S1, T1, f1, mo1, be1, y4, y5, g1, g2, g3⟩ := al_step (n := N) (n' := M) (w := nI w) hq hs hm hsq ht hp h5s hSs (fun W hW => hSp.cp c3 (fun j hj => by rw [Nat.zero_add]; exact hW j hj)) hvs hinc hb hI
    exact ⟨(S1, f1, mo1, be1), (T1, y4, y5), g1, g2, g3⟩) FU FU 0 (Xs, nI 317, nI 0, nI 0) (Yp, -(nI 1), nI 0) (by omega) ⟨⟨rfl, fun _ _ _ => rfl, fun _ _ _ => rfl⟩, FrQ.refl, rfl, rfl, Or.inl ⟨rfl, rfl, rfl, rfl, rfl, rfl⟩⟩ (by rw [FU_40000]; omega) (by rw [FU_40000]; omega)
  rcases hst with ⟨hh, -⟩ | ⟨-, f0, bb, g1, g2, hf, hbe, hmo, hx4, hx5⟩
  · exact absurd hh (by omega)
  obtain ⟨X1, r1, r2, -, -, r3⟩ := keepAns (X := S) (i := t) (x := f) (y := mo) (z := be) hq (by omega)
  have hfr : FndF X X1 q t := by
    refine FndF.trans (FndF.of x2 (fun r h1 h2 => xq r (by omega) (by omega))) (FndF.trans (FndF.of c2.1 (fun r h1 h2 => c2.2 r (by omega))) (FndF.trans (FndF.of hT.1 (fun r h1 h2 => hT.2.1 r (by omega) (by omega))) r2))
  have fp : FrQ Ym Yp m := ⟨y2, fun r hr => yq r (by omega), fun j _ => by rw [yq m (by omega)], fun j _ => by rw [yq (m + 3) (by omega)]⟩
  refine ⟨X1, T, ?_, ?_, hfr, (FrQ.fld (k := 0) (v := nI 0) (by omega)).trans (k2.q.trans (fp.trans hQ)), ?_⟩
  · rw [e1, Option.bind_some]
    unfold f_X3_findAlone
    simp only [litM]
    rw [grd_t q0]
    simp only [ldR, q0, hq.2.1, if_true, Option.bind_some]
    rw [c1, Option.bind_some]
    refine Eq.trans eF ?_
    show f_X3_findAlone_21 σ q s (nI t) (n1 + 1) S f mo be (nI (2 ^ p)) = _
    rw [f_X3_findAlone_21]
    simp only [litM]
    rw [ldI_t q0, hT.2.1 q (by omega) (by omega), h5s, w1, if_pos (Int32.le_refl _), nI_add, Nat.zero_add, r1, Option.bind_some]
  · unfold f_X10_alone f_X10_isSide f_X10_laysAlone
    simp only [litM]
    rw [grd_t m0, stI_t m0, grd_t m0, s_win (by omega), inR_t (by omega) (by omega), s10_right hm z0 (Or.inl rfl), if_pos rfl, bnd2_k, grd_t (of_eq_true (bI_01 _)), bnd2_k, if_neg (by decide), s10_isWhat hm z0 (by omega), inR_t (by omega) (by omega), if_pos rfl, bnd2_k, if_neg (by decide), grd_t m0, k1, Option.bind_some, e2, bnd2_k]
    refine Eq.trans eG ?_
    show f_X10_alone_39 τ m (nI t) (nI w) (nI p) (n2 + 1) T x4 x5 (nI (2 ^ p)) = _
    rw [f_X10_alone_39]
    simp only [litM]
    rw [w1, if_pos (Int32.le_refl _), r3 w hw, s_bits, Option.bind_some]
    rw [show x4 = nI f0 from hx4, show x5 = nI bb from hx5, show f = nI f0 from hf, show mo = nI (cnt 20 (nI bb)) from hmo, show be = nI bb from hbe]
    rcases (show w = 0 ∨ w = 1 ∨ w = 2 by omega) with rfl | rfl | rfl
    · rfl
    · rfl
    · rfl
  · rw [show T.1 m 0 = Yp.1 m 0 from hT0, yq m (by omega), ym0]
theorem q_alone {σ : Sh} {X : Mx} {a L R z : Nat} {x y : Int32} (h : IV σ X a L R) : Qry σ a L R (f_X9_alone σ X z a x y) (fun X2 => f_X10_alone σ X2 (a + 108) x y) := by
  have hs := h.1
  have o0 := hs.1.1.1
  have o1 : shR σ a 0 = some (a + 1) := hs.1.1.2.1
  have o5 : shR σ a 5 = some (a + 53) := hs.1.1.2.2.2.2.2.2.1
  have hD := hs.md
  have m0 := hD.1
  cases hx : inR 1 x with
  | false =>
    refine ⟨.inr 0, X, 1, 6, ?_, by omega, by omega, h, fun X2 e2 => ⟨nI 0, sI (sI X2 (a + 108) 0 (nI 0)) (a + 108) 0 (nI 1), ?_, (FrQ.fld (by omega)).trans (FrQ.fld (by omega)), Or.inr ⟨0, rfl, by omega, sI_eq⟩⟩⟩
    · obtain ⟨n0, n1⟩ := in_1 hx
      unfold f_X9_alone f_X9_demandSide
      simp only [litM]
      rw [grd_t o0, if_neg n0, if_neg n1, bndX_r]
    · show f_X10_alone σ X2 (a + 108) x y = _
      unfold f_X10_alone f_X10_isSide
      simp only [litM]
      rw [grd_t m0, stI_t m0, grd_t m0, s_win (by omega), hx, s10_right hD sI_eq (Or.inl rfl), if_neg (by decide), bnd2_k, grd_t (of_eq_true (bI_01 _)), bnd2_k, if_pos bI_f]
  | true =>
    obtain ⟨t, ht, rfl⟩ := inR_ex (by omega) hx
    have hds : f_X9_demandSide σ X z (nI t) = some (.inl (), σ, X, 0, 0) := by
      unfold f_X9_demandSide
      simp only [litM]
      rcases (show t = 0 ∨ t = 1 by omega) with rfl | rfl
      · rw [if_pos rfl]
      · rw [if_neg (by decide), if_pos rfl]
    cases hy : inR 2 y with
    | false =>
      refine ⟨.inr 0, X, 1, 6, ?_, by omega, by omega, h, fun X2 e2 => ⟨nI 0, sI (sI X2 (a + 108) 0 (nI 0)) (a + 108) 0 (nI 1), ?_, (FrQ.fld (by omega)).trans (FrQ.fld (by omega)), Or.inr ⟨0, rfl, by omega, sI_eq⟩⟩⟩
      · unfold f_X9_alone
        rw [grd_t o0, hds, bndX_l, fold_3, hy, if_neg (by decide), bndX_r]
        rfl
      · show f_X10_alone σ X2 (a + 108) (nI t) y = _
        unfold f_X10_alone f_X10_isSide
        simp only [litM]
        rw [grd_t m0, stI_t m0, grd_t m0, s_win (by omega), hx, s10_right hD sI_eq (Or.inl rfl), if_pos rfl, bnd2_k, grd_t (of_eq_true (bI_01 _)), bnd2_k, if_neg (by decide), s10_isWhat hD sI_eq (by omega), hy, if_neg (by decide), bnd2_k, if_pos bI_f]
    | true =>
      obtain ⟨w, hw, rfl⟩ := inR_ex (by omega) hy
      obtain ⟨Xf, ef, hIf, hMf, -, hFf⟩ := fresh h
      have key : ∀ (w : Nat) (τ : Sh) (Y : Mx), w < 3 → mdOK τ (a + 108) → (∀ j, j < 931 → Y.1 (a + 111) j = Xf.1 (a + 111) j) → ∃ X1 Y1, ((f_X3_pickChanged σ Xf (a + 53) (a + 1) (a + 18) (nI t)).bind fun X12 => f_X3_findAlone σ X12 (a + 53) (a + 1) (nI t)) = some X1 ∧ f_X10_alone τ Y (a + 108) (nI t) (nI w) = some (X1.1 (a + 82) (3 * t + w), Y1) ∧ FndF Xf X1 (a + 53) t ∧ FrQ Y Y1 (a + 108) ∧ Y1.1 (a + 108) 0 = nI 0 := fun w τ Y hw hm hY => by
        obtain ⟨Ym, n, k1, k2, k3, k4⟩ := hMf τ (sI Y (a + 108) 0 (nI 0)) hm (fun j hj => by rw [sI_na (by omega)]; exact hY j hj)
        exact alone_rel hs.qu hs.2.1 hs.mg hm (by omega) (by omega) ht hw (hIf.2.1.1.fr hs.2.1.lr (fun _ _ _ => rfl) (fun j hj => by rw [Nat.zero_add]; exact hY j hj)) k1 k2 k4
      have hf : ∃ X1, ((f_X3_pickChanged σ Xf (a + 53) (a + 1) (a + 18) (nI t)).bind fun X12 => f_X3_findAlone σ X12 (a + 53) (a + 1) (nI t)) = some X1 ∧ IV σ X1 a L R ∧ QuC X1.1 a t := by
        obtain ⟨X1, Y0, e1, -, e2, -, -⟩ := key 0 σ Xf (by omega) hD (fun _ _ => rfl)
        refine ⟨X1, e1, found hIf e2 (by omega) (fun w τ Y hw hm hY _ _ => ?_)⟩
        obtain ⟨X1', Y1, k1, k2, -, k3, k4⟩ := key w τ Y hw hm hY
        rw [e1] at k1
        cases k1
        refine ⟨Y1, ?_, k3, k4⟩
        unfold askQ
        rw [if_pos (by omega)]
        exact k2
      obtain ⟨X1, e1, e2, e3⟩ := ask_fin (K := fun X8 => adc 0 0 (adc 0 0 (f_X9_alone_51 a (nI w) (nI t) σ X8 (z + 0 + 0)))) h (show t < 6 by omega) hf
      refine ⟨.inl (X1.1 (a + 82) (3 * t + w)), X1, 0, 0, ?_, by omega, by omega, e2, fun X2 ex => ?_⟩
      · have ea : f_X9_alone_51 a (nI w) (nI t) σ X1 (z + 0 + 0) = some (.inl (X1.1 (a + 82) (3 * t + w)), σ, X1, 0, 0) := by
          unfold f_X9_alone_51
          simp only [ldR, o0, o5, if_true, Option.bind_some]
          rw [s_answerTo hs.qu (by omega) hw, Option.bind_some]
        unfold f_X9_alone
        rw [grd_t o0, hds, bndX_l, fold_3, hy, if_pos rfl, bndX_l]
        simp only [litM]
        simp only [ldR, o0, o1, o5, if_true, Option.bind_some, nI_add, Nat.zero_add]
        rw [ef, bnd2_k]
        refine Eq.trans ?_ (e1.trans (by rw [ea]; rfl))
        cases f_X3_knows σ X (a + 53) (nI t) with
        | none => rfl
        | some v =>
          simp only [Option.bind_some]
          split
          · cases f_X3_pickChanged σ Xf (a + 53) (a + 1) (a + 18) (nI t) with
            | none => rfl
            | some Z =>
              simp only [Option.bind_some]
              cases f_X3_findAlone σ Z (a + 53) (a + 1) (nI t) <;> rfl
          · rfl
      · obtain ⟨Y1, k1, k2, k3⟩ := e3 w σ X2 hw hD (fun j _ => by rw [ex]) (by rw [ex]) (fun j _ => by rw [ex])
        refine ⟨_, Y1, ?_, k2, Or.inl ⟨_, rfl, k3, rfl⟩⟩
        unfold askQ at k1
        rw [if_pos (by omega)] at k1
        exact k1
