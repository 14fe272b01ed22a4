theorem edited_rel {σ τ : Sh} {X Y : Mx} {q s L R m n w : Nat} (hq : quOK σ q) (hs : stOK σ s L R) (hd : s + 16 < q) (hn : snOK σ n) (hdn : n + 3 < q) (hm : mdOK τ m) (hS : StR X.1 s L R (Y.1 (m + 3)) 0) (hW : SeenW X.1 n Y.1 m) (hw : w < 3) : ∃ X1 Y1, f_X3_findEdited σ X q s n = some X1 ∧ f_X10_edited τ Y m (nI w) = some (X1.1 (q + 29) (3 * 5 + w), Y1) ∧ FndF X X1 q 5 ∧ FrQ Y Y1 m ∧ Y1.1 m 0 = nI 0 := by
  have m0 := hm.1
  obtain ⟨q0, q1, q2, q3, q4, q5, qs, qg, k28, n28, k29, n29, k30, n30⟩ := id hq
  obtain ⟨Yz, hYz⟩ : ∃ Yz, Yz = sI Y m 0 (nI 0) := ⟨_, rfl⟩
  have z0 : Yz.1 m 0 = nI 0 := by rw [hYz, sI_eq]
  have z3 : Yz.1 (m + 3) = Y.1 (m + 3) := by rw [hYz, sI_ne (by omega)]
  have fz : FrQ Y Yz m := by rw [hYz]; exact FrQ.fld (by omega)
  have hSz : StR X.1 s L R (Yz.1 (m + 3)) 0 := by rw [z3]; exact hS
  have hWz : SeenW X.1 n Yz.1 m := hW.fr (fun _ _ _ => rfl) (by rw [hYz, sI_nk (by omega)]) (fun j _ => by rw [hYz, sI_na (by omega)])
  obtain ⟨X1, e1, e3, e4⟩ := st_copy (X := X) qs hs (Or.inr (by omega))
  obtain ⟨X2, Ym, c, f1, f2, f3, f4⟩ := merge_rel (X := X1) (Y := Yz) (b := 0) qg qs hm (by omega) (Or.inl (by omega)) (hSz.cp e4 (fun j hj => rfl))
  obtain ⟨b, g1, g2⟩ := seen_rel (X := X2) (Y := Ym) (g := q + 18 + 1) hn qg.2.2.2.2.2.2.2.1 hm (hWz.fr (fun p h1 h2 => by rw [f4.1.2 p (by omega), e3.2 p (by omega)]) (f4.2.1.q.2.2.1 32 (by omega)) (fun j _ => by rw [f4.2.1.q.2.1 (m + 14) (by omega)])) f4.2.2.1
  have hI : EdI X Yz q m s L R X2 Yz := ⟨e4.fz (fun p h1 h2 => f4.1.2 p (by omega)), (FndF.of e3.1 (fun p h1 _ => e3.2 p (by omega))).trans (FndF.run f4.1), FrQ.refl, rfl⟩
  have cl : ∀ {X3 X4 : Mx} {wy fs : Int32}, f_X3_findEdited_48 σ q s n (bI b) FU X2 (nI 0) (-(nI 1)) (nI 0) = f_X3_keepAnswer σ X3 q (nI 5) wy fs (bI b) → f_X3_keepAnswer σ X3 q (nI 5) wy fs (bI b) = some X4 → f_X3_findEdited σ X q s n = some X4 := by
    intro X3 X4 wy fs h1 h2
    unfold f_X3_findEdited f_X3_findEdited_38
    simp only [litM]
    rw [grd_t q0]
    simp only [ldR, q0, q1, q2, qg.1, qg.2.1, if_true, Option.bind_some]
    rw [e1, Option.bind_some, f1, Option.bind_some, g1, Option.bind_some]
    rw [h2] at h1
    cases b with
    | false => rw [if_pos bI_f]; exact h1
    | true => rw [if_neg (by decide)]; exact h1
  have md : inR 2 (nI w) = true := inR_t (by omega) (by omega)
  by_cases w2 : w = 2
  · subst w2
    obtain ⟨X3, Y3, wy, fs, h1, -, h3⟩ := ed_all (x3 := bI b) (wy := nI 0) (fs := -(nI 1)) (w := 0) hq hs hd hn hdn hm hSz hWz (by omega) hI
    obtain ⟨X4, k1, k2, -, -, k3⟩ := keepAns (X := X3) (i := 5) (x := wy) (y := fs) (z := bI b) hq (by omega)
    refine ⟨X4, Ym, cl h1 k1, ?_, h3.2.1.trans k2, fz.trans f4.2.1.q, by rw [f4.2.1.2.2 0 (by omega) (by omega) (by omega)]; exact z0⟩
    rw [k3 2 (by omega)]
    unfold f_X10_edited f_X10_isSeen
    simp only [litM]
    rw [grd_t m0, stI_t m0, ← hYz, s10_isWhat hm z0 (by omega), md, if_pos rfl, bnd2_k, if_neg (by decide), if_pos trivial, grd_t m0, f2, Option.bind_some, g2, bnd2_k]
    cases b <;> rfl
  · obtain ⟨X3, Y3, wy, fs, h1, h2, h3⟩ := ed_all (x3 := bI b) (wy := nI 0) (fs := -(nI 1)) (w := w) hq hs hd hn hdn hm hSz hWz (by omega) hI
    obtain ⟨X4, k1, k2, -, -, k3⟩ := keepAns (X := X3) (i := 5) (x := wy) (y := fs) (z := bI b) hq (by omega)
    refine ⟨X4, Y3, cl h1 k1, ?_, h3.2.1.trans k2, fz.trans h3.2.2.1, h3.2.2.2.trans z0⟩
    rw [k3 w hw]
    unfold f_X10_edited
    simp only [litM]
    rw [grd_t m0, stI_t m0, ← hYz, s10_isWhat hm z0 (by omega), md, if_pos rfl, bnd2_k, if_neg (by decide), if_neg (by rw [n_eq (by omega) (by omega)]; exact w2), h2]
    rcases (show w = 0 ∨ w = 1 by omega) with rfl | rfl
    · rfl
    · rfl
theorem q_edited {σ : Sh} {X : Mx} {a L R z : Nat} {y : Int32} (h : IV σ X a L R) : Qry σ a L R (f_X9_edited σ X z a y) (fun X2 => f_X10_edited σ X2 (a + 108) y) := by
  have hs := h.1
  have o0 := hs.1.1.1
  have o1 : shR σ a 0 = some (a + 1) := hs.1.1.2.1
  have o4 : shR σ a 4 = some (a + 49) := hs.1.1.2.2.2.2.2.1
  have o5 : shR σ a 5 = some (a + 53) := hs.1.1.2.2.2.2.2.2.1
  have hD := hs.md
  have m0 := hD.1
  have hN : snOK σ (a + 49) := hs.1.2.2.2.2.1
  cases hy : inR 2 y with
  | false =>
    refine ⟨.inr 0, X, 1, 6, ?_, by omega, by omega, h, fun X2 e2 => ⟨nI 0, sI (sI X2 (a + 108) 0 (nI 0)) (a + 108) 0 (nI 1), ?_, (FrQ.fld (by omega)).trans (FrQ.fld (by omega)), Or.inr ⟨0, rfl, by omega, sI_eq⟩⟩⟩
    · unfold f_X9_edited
      rw [grd_t o0, fold_3, hy, if_neg (by decide), bndX_r]
    · show f_X10_edited σ X2 (a + 108) y = _
      unfold f_X10_edited
      simp only [litM]
      rw [grd_t m0, stI_t m0, s10_isWhat hD sI_eq (by omega), hy, if_neg (by decide), bnd2_k, if_pos bI_f]
  | true =>
    obtain ⟨w, hw, rfl⟩ := inR_ex (by omega) hy
    have key : ∀ (w : Nat) (τ : Sh) (Y : Mx), w < 3 → mdOK τ (a + 108) → (∀ j, j < 931 → Y.1 (a + 111) j = X.1 (a + 111) j) → Y.1 (a + 108) 32 = X.1 (a + 108) 32 → (∀ j, j < 24 → Y.1 (a + 122) j = X.1 (a + 122) j) → ∃ X1 Y1, f_X3_findEdited σ X (a + 53) (a + 1) (a + 49) = some X1 ∧ f_X10_edited τ Y (a + 108) (nI w) = some (X1.1 (a + 82) (3 * 5 + w), Y1) ∧ FndF X X1 (a + 53) 5 ∧ FrQ Y Y1 (a + 108) ∧ Y1.1 (a + 108) 0 = nI 0 := fun w τ Y hw hm hY h32 h122 => by
      refine edited_rel hs.qu hs.2.1 (by omega) hN (by omega) hm (h.2.1.1.fr hs.2.1.lr (fun _ _ _ => rfl) (fun j hj => by rw [Nat.zero_add]; exact hY j hj)) ?_ hw
      obtain ⟨k, k1, k2, k3, k4⟩ := h.2.1.2.2.2.1
      refine ⟨k, k1, k2, h32.trans k3, fun i hi => ?_⟩
      obtain ⟨p, q, g1, g2, g3, g4, g5, g6, g7⟩ := k4 i hi
      exact ⟨p, q, g1, g2, g3, g4, (h122 _ (by omega)).trans g5, (h122 _ (by omega)).trans g6, g7.trans (h122 _ (by omega)).symm⟩
    have hf : ∃ X1, f_X3_findEdited σ X (a + 53) (a + 1) (a + 49) = some X1 ∧ IV σ X1 a L R ∧ QuC X1.1 a 5 := by
      obtain ⟨X1, Y0, e1, -, e2, -, -⟩ := key 0 σ X (by omega) hD (fun _ _ => rfl) rfl (fun _ _ => rfl)
      refine ⟨X1, e1, found h e2 (by omega) (fun w τ Y hw hm hY h32 h122 => ?_)⟩
      obtain ⟨X1', Y1, k1, k2, -, k3, k4⟩ := key w τ Y hw hm hY h32 h122
      rw [e1] at k1
      cases k1
      refine ⟨Y1, ?_, k3, k4⟩
      unfold askQ
      rw [if_neg (by omega), if_neg (by omega)]
      exact k2
    obtain ⟨X1, e1, e2, e3⟩ := ask_fin (K := fun X8 => adc 0 0 (f_X9_edited_30 a (nI w) σ X8 (z + 0))) h (show 5 < 6 by omega) hf
    refine ⟨.inl (X1.1 (a + 82) (3 * 5 + w)), X1, 0, 0, ?_, by omega, by omega, e2, fun X2 ex => ?_⟩
    · have ea : f_X9_edited_30 a (nI w) σ X1 (z + 0) = some (.inl (X1.1 (a + 82) (3 * 5 + w)), σ, X1, 0, 0) := by
        unfold f_X9_edited_30
        simp only [litM]
        simp only [ldR, o0, o5, if_true, Option.bind_some]
        rw [s_answerTo hs.qu (by omega) hw, Option.bind_some]
      unfold f_X9_edited
      rw [grd_t o0, fold_3, hy, if_pos rfl, bndX_l]
      simp only [litM]
      simp only [ldR, o0, o1, o4, o5, if_true, Option.bind_some]
      refine Eq.trans ?_ (e1.trans (by rw [ea]; rfl))
      cases f_X3_knows σ X (a + 53) (nI 5) with
      | none => rfl
      | some v =>
        simp only [Option.bind_some]
        split
        · cases f_X3_findEdited σ X (a + 53) (a + 1) (a + 49) <;> rfl
        · rfl
    · obtain ⟨Y1, k1, k2, k3⟩ := e3 w σ X2 hw hD (fun j _ => by rw [ex]) (by rw [ex]) (fun j _ => by rw [ex])
      refine ⟨_, Y1, ?_, k2, Or.inl ⟨_, rfl, k3, rfl⟩⟩
      unfold askQ at k1
      rw [if_neg (by omega), if_neg (by omega)] at k1
      exact k1
