/-! ===== along ===== -/
theorem trial_start {σ τ : Sh} {q s L R m : Nat} {X Y : Mx} (hq : quOK σ q) (hs : stOK σ s L R) (hd : s + 16 < q) (hm : mdOK τ m) (hS : StR X.1 s L R (Y.1 (m + 3)) 0) : ∃ X1 Y1, f_X5_copyFrom σ X (q + 1) s = some X1 ∧ f_X10_tries τ Y m = some Y1 ∧ FrX X X1 (q + 1) (q + 1 + 16) ∧ StC X.1 s L R X1.1 (q + 1) (q + 1 + 5) (q + 1 + 9) ∧ Y1.2 = Y.2 ∧ (∀ p, p ≠ m + 3 → Y1.1 p = Y.1 p) ∧ (∀ j, j < 931 → Y1.1 (m + 3) j = Y.1 (m + 3) j) ∧ (∀ j, j < 931 → Y1.1 (m + 3) (931 + j) = Y.1 (m + 3) j) ∧ StR X1.1 (q + 1) (q + 1 + 5) (q + 1 + 9) (Y1.1 (m + 3)) 931 := by
  obtain ⟨q0, q1, q2, q3, q4, q5, qs, qg, -⟩ := hq
  obtain ⟨X1, e1, e2, e3⟩ := st_copy (X := X) qs hs (Or.inr (by omega))
  have h1 : ∀ j, j < 931 → (wF Y (m + 3) (fun j => if 931 ≤ j ∧ j < 931 + 931 then Y.1 (m + 3) (0 + (j - 931)) else Y.1 (m + 3) j)).1 (m + 3) j = Y.1 (m + 3) j := fun j hj => by rw [wF_at, if_neg (by omega)]
  have h2 : ∀ j, j < 931 → (wF Y (m + 3) (fun j => if 931 ≤ j ∧ j < 931 + 931 then Y.1 (m + 3) (0 + (j - 931)) else Y.1 (m + 3) j)).1 (m + 3) (931 + j) = Y.1 (m + 3) j := fun j hj => by rw [wF_at, if_pos (by omega), Nat.zero_add, Nat.add_sub_cancel_left]
  refine ⟨X1, wF Y (m + 3) (fun j => if 931 ≤ j ∧ j < 931 + 931 then Y.1 (m + 3) (0 + (j - 931)) else Y.1 (m + 3) j), e1, s10_tries hm, e2, e3, rfl, fun p hp => wF_fn hp, h1, h2, hS.cp e3 (fun j hj => by rw [Nat.zero_add]; exact h2 j hj)⟩
theorem FrQ.of3 {Y Y1 : Mx} {m : Nat} (h2 : Y1.2 = Y.2) (h : ∀ p, p ≠ m + 3 → Y1.1 p = Y.1 p) (h3 : ∀ j, j < 931 → Y1.1 (m + 3) j = Y.1 (m + 3) j) : FrQ Y Y1 m := ⟨h2, fun p hp => h p (by omega), fun j _ => by rw [h m (by omega)], h3⟩
theorem along_rel {σ τ : Sh} {X Y : Mx} {q s L R m ch w : Nat} (hq : quOK σ q) (hs : stOK σ s L R) (hd : s + 16 < q) (hm : mdOK τ m) (hS : StR X.1 s L R (Y.1 (m + 3)) 0) (hch : ch < 3) (hw : w < 3) : ∃ X1 Y1, f_X3_findAlong σ X q s (nI ch) = some X1 ∧ f_X10_along τ Y m (nI ch) (nI w) = some (X1.1 (q + 29) (3 * (2 + ch) + w), Y1) ∧ FndF X X1 q (2 + ch) ∧ FrQ Y Y1 m ∧ Y1.1 m 0 = nI 0 := by
  have m0 := hm.1
  obtain ⟨X1, Y1, e1, e2, e3, -, e4, e5, e6, -, e7⟩ := trial_start (Y := sI Y m 0 (nI 0)) hq hs hd hm (by rw [sI_ne (by omega)]; exact hS)
  obtain ⟨X2, Y2, n, f1, f2, f3, f4, f5, f6, f7⟩ := trial_run hq hm e7
  obtain ⟨X3, Y3, g1, g2, g3, g4, g5⟩ := al_loop hq hm hch hw 200 0 FU FU X2 Y2 n _ _ _ (by omega) (by rw [FU_40000]; omega) (by rw [FU_40000]; omega) f7 f3 f6
  have z0 : (sI Y m 0 (nI 0)).1 m 0 = nI 0 := sI_eq
  refine ⟨X3, Y3, ?_, ?_, ?_, ?_, ?_⟩
  · unfold f_X3_findAlong
    simp only [litM]
    obtain ⟨q0, q1, q2, q3, q4, q5, qs, qg, -⟩ := hq
    rw [grd_t q0]
    simp only [ldR, q0, q1, q2, if_true, Option.bind_some]
    rw [e1, Option.bind_some, f1, Option.bind_some]
    exact g1
  · unfold f_X10_along
    simp only [litM]
    rw [grd_t m0, stI_t m0, s10_isWhat hm z0 (by omega), inR_t (by omega) (by omega), if_pos rfl, bnd2_k, if_neg (by decide), s_win (by omega), inR_t (by omega) (by omega), s10_right hm z0 (Or.inr rfl), if_pos rfl, bnd2_k, if_neg (by decide), e2, Option.bind_some, f2, Option.bind_some]
    exact g2
  · refine FndF.trans (FndF.of e3.1 (fun p h1 _ => e3.2 p (by omega))) ((FndF.run f4).trans g3)
  · exact (FrQ.fld (k := 0) (v := nI 0) (by omega)).trans ((FrQ.of3 e4 e5 e6).trans (f5.q.trans g4))
  · rw [g5, f5.2.2 0 (by omega) (by omega) (by omega), e5 m (by omega), z0]
theorem fold_3 {σ : Sh} {X : Mx} {z : Nat} {x : Int32} : f_X9_demandThreefold σ X z x = if inR 2 x = true then some (.inl (), σ, X, 0, 0) else some (.inr 0, σ, X, 1, 6) := by
  unfold f_X9_demandThreefold f_X9_demandThreefold_9
  simp only [litM]
  cases e : inR 2 x with
  | true =>
    obtain ⟨k, hk, rfl⟩ := inR_ex (by omega) e
    rw [if_neg (by rw [n_lt (by omega) (by omega)]; omega), if_pos (by rw [n_le (by omega) (by omega)]; omega), if_pos rfl]
  | false =>
    rw [if_neg (show ¬ false = true by decide)]
    rcases inR_n e with h | ⟨h1, h2⟩
    · rw [if_pos h]
    · rw [if_neg h1, if_neg (fun h => by
        have := n_nlt (n := 2) h2 (by omega)
        exact absurd h (Int32.not_le.mpr (of_eq_true this)))]
theorem q_along {σ : Sh} {X : Mx} {a L R z : Nat} {x y : Int32} (h : IV σ X a L R) : Qry σ a L R (f_X9_along σ X z a x y) (fun X2 => f_X10_along σ X2 (a + 108) x y) := by
  have hs := h.1
  have o0 := hs.1.1.1
  have o1 : shR σ a 0 = some (a + 1) := hs.1.1.2.1
  have o5 : shR σ a 5 = some (a + 53) := hs.1.1.2.2.2.2.2.2.1
  have hD := hs.md
  have m0 := hD.1
  cases hy : inR 2 y with
  | false =>
    refine ⟨.inr 0, X, 1, 6, ?_, by omega, by omega, h, fun X2 e2 => ⟨nI 0, sI (sI X2 (a + 108) 0 (nI 0)) (a + 108) 0 (nI 1), ?_, (FrQ.fld (by omega)).trans (FrQ.fld (by omega)), Or.inr ⟨0, rfl, by omega, sI_eq⟩⟩⟩
    · unfold f_X9_along
      rw [grd_t o0, fold_3, hy, if_neg (by decide), bndX_r]
    · show f_X10_along σ X2 (a + 108) x y = _
      unfold f_X10_along
      simp only [litM]
      rw [grd_t m0, stI_t m0, s10_isWhat hD sI_eq (by omega), hy, if_neg (by decide), bnd2_k, if_pos bI_f]
  | true =>
    obtain ⟨w, hw, rfl⟩ := inR_ex (by omega) hy
    cases hx : inR 2 x with
    | false =>
      refine ⟨.inr 1, X, 1, 6, ?_, by omega, by omega, h, fun X2 e2 => ⟨nI 0, sI (sI X2 (a + 108) 0 (nI 0)) (a + 108) 0 (nI 2), ?_, (FrQ.fld (by omega)).trans (FrQ.fld (by omega)), Or.inr ⟨1, rfl, by omega, sI_eq⟩⟩⟩
      · unfold f_X9_along f_X9_along_13
        rw [grd_t o0, fold_3, hy, if_pos rfl, bndX_l]
        simp only [litM]
        rcases inR_n hx with h | ⟨h1, h2⟩
        · rw [if_pos h]; rfl
        · rw [if_neg h1, if_neg (fun h => by
            have := n_nlt (n := 2) h2 (by omega)
            exact absurd h (Int32.not_le.mpr (of_eq_true this)))]
          rfl
      · show f_X10_along σ X2 (a + 108) x (nI w) = _
        unfold f_X10_along
        simp only [litM]
        rw [grd_t m0, stI_t m0, s10_isWhat hD sI_eq (by omega), hy, if_pos rfl, bnd2_k, if_neg (by decide), s_win (by omega), hx, s10_right hD sI_eq (Or.inr rfl), if_neg (by decide), bnd2_k, if_pos bI_f]
    | true =>
      obtain ⟨ch, hch, rfl⟩ := inR_ex (by omega) hx
      have key : ∀ (w : Nat) (τ : Sh) (Y : Mx), w < 3 → mdOK τ (a + 108) → (∀ j, j < 931 → Y.1 (a + 111) j = X.1 (a + 111) j) → ∃ X1 Y1, f_X3_findAlong σ X (a + 53) (a + 1) (nI ch) = some X1 ∧ f_X10_along τ Y (a + 108) (nI ch) (nI w) = some (X1.1 (a + 82) (3 * (2 + ch) + w), Y1) ∧ FndF X X1 (a + 53) (2 + ch) ∧ FrQ Y Y1 (a + 108) ∧ Y1.1 (a + 108) 0 = nI 0 := fun w τ Y hw hm hY =>
        along_rel hs.qu hs.2.1 (by omega) hm (h.2.1.1.fr hs.2.1.lr (fun _ _ _ => rfl) (fun j hj => by rw [Nat.zero_add]; exact hY j hj)) hch hw
      have hf : ∃ X1, f_X3_findAlong σ X (a + 53) (a + 1) (nI ch) = some X1 ∧ IV σ X1 a L R ∧ QuC X1.1 a (2 + ch) := by
        obtain ⟨X1, Y0, e1, -, e2, -, -⟩ := key 0 σ X (by omega) hD (fun _ _ => rfl)
        refine ⟨X1, e1, found h e2 (by omega) (fun w τ Y hw hm hY _ _ => ?_)⟩
        obtain ⟨X1', Y1, k1, k2, -, k3, k4⟩ := key w τ Y hw hm hY
        rw [e1] at k1
        cases k1
        refine ⟨Y1, ?_, k3, k4⟩
        unfold askQ
        rw [if_neg (by omega), if_pos (by omega), Nat.add_sub_cancel_left]
        exact k2
      obtain ⟨X1, e1, e2, e3⟩ := ask_fin (K := fun X8 => adc 0 0 (f_X9_along_51 a (nI w) (nI (2 + ch)) σ X8 (z + 0))) h (show 2 + ch < 6 by omega) hf
      refine ⟨.inl (X1.1 (a + 82) (3 * (2 + ch) + w)), X1, 0, 0, ?_, by omega, by omega, e2, fun X2 ex => ?_⟩
      · have ea : f_X9_along_51 a (nI w) (nI (2 + ch)) σ X1 (z + 0) = some (.inl (X1.1 (a + 82) (3 * (2 + ch) + w)), σ, X1, 0, 0) := by
          unfold f_X9_along_51
          simp only [ldR, o0, o5, if_true, Option.bind_some]
          rw [s_answerTo hs.qu (by omega) hw, Option.bind_some]
        unfold f_X9_along
        rw [grd_t o0, fold_3, hy, if_pos rfl, bndX_l]
        simp only [litM]
        rw [if_neg (by rw [n_lt (by omega) (by omega)]; omega), if_pos (by rw [n_le (by omega) (by omega)]; omega)]
        simp only [ldR, o0, o1, o5, if_true, Option.bind_some, nI_add]
        refine Eq.trans ?_ (e1.trans (by rw [ea]; rfl))
        cases f_X3_knows σ X (a + 53) (nI (2 + ch)) with
        | none => rfl
        | some v =>
          simp only [Option.bind_some]
          split
          · cases f_X3_findAlong σ X (a + 53) (a + 1) (nI ch) <;> rfl
          · rfl
      · obtain ⟨Y1, k1, k2, k3⟩ := e3 w σ X2 hw hD (fun j _ => by rw [ex]) (by rw [ex]) (fun j _ => by rw [ex])
        refine ⟨_, Y1, ?_, k2, Or.inl ⟨_, rfl, k3, rfl⟩⟩
        unfold askQ at k1
        rw [if_neg (by omega), if_pos (by omega), Nat.add_sub_cancel_left] at k1
        exact k1
