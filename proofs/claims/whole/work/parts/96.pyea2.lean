theorem years_rel {σ τ : Sh} {X Y : Mx} {q s L R m n w : Nat} {sd0 : Int32} (hq : quOK σ q) (hs : stOK σ s L R) (hd : s + 16 < q) (hm : mdOK τ m) (hS : StR X.1 s L R (Y.1 (m + 3)) 0) (hn : n < 61) (hw : w < 3) : ∃ X1 Y1, f_X3_findYears σ X q s sd0 (nI n) = some X1 ∧ f_X10_years τ Y m sd0 (nI n) (nI w) = some (X1.1 (q + 29) (3 * 6 + w), Y1) ∧ FndF X X1 q 6 ∧ FrQ Y Y1 m ∧ Y1.1 m 0 = nI 0 := by
  have m0 := hm.1
  obtain ⟨q0, q1, q2, q3, q4, q5, qs, qg, k28, n28, k29, n29, k30, n30⟩ := id hq
  obtain ⟨X1, Y1, e1, e2, e3, -, e4, e5, e6, -, e7⟩ := trial_start (Y := sI Y m 0 (nI 0)) hq hs hd hm (by rw [sI_ne (by omega)]; exact hS)
  have z0 : (sI Y m 0 (nI 0)).1 m 0 = nI 0 := sI_eq
  have hI : YrI X (sI Y m 0 (nI 0)) q m (sI X1 q 6 sd0) (sI Y1 m 34 sd0) := by
    refine ⟨e7.fr (Or.inl ⟨rfl, rfl⟩) (fun p a b => sI_ne (by omega)) (fun j hj => by rw [sI_ne (by omega)]), by rw [sI_eq, sI_eq], ?_, ?_, ?_⟩
    · exact FndF.of e3.1 (fun p a b => by rw [sI_ne (by omega), e3.2 p (by omega)])
    · exact (FrQ.of3 e4 e5 e6).trans (FrQ.fld (by omega))
    · rw [sI_nk (by omega), e5 m (by omega)]
  obtain ⟨n1, n2, ⟨S, d⟩, ⟨T, d'⟩, eF, eG, rfl, hdk, hYr⟩ := up_loop2 (fun N (S : Mx × Nat) k => f_X3_findYears_19 σ q (nI n) N S.1 (nI S.2) (nI k)) (fun N (T : Mx × Nat) k => f_X10_years_46 τ m (nI n) (nI w) N T.1 (nI T.2) (nI k)) n (fun k S T => S.2 = T.2 ∧ S.2 ≤ k ∧ YrI X (sI Y m 0 (nI 0)) q m S.1 T.1) (by
    rintro N M k ⟨S, d⟩ ⟨T, d'⟩ hk ⟨rfl, hdk, hYr⟩
    obtain ⟨ok, S1, T1, f1, f2, f3⟩ := year_both hq hm hYr
    refine ⟨(S1, if ok = true then d + 1 else d), (T1, if ok = true then d + 1 else d), ?_, ?_, rfl, ?_, f3⟩
    · show f_X3_findYears_19 σ q (nI n) (N + 1) S (nI d) (nI k) = f_X3_findYears_19 σ q (nI n) N S1 (nI (if ok = true then d + 1 else d)) (nI (k + 1))
      rw [f_X3_findYears_19]
      unfold f_X3_findYears_35
      simp only [litM]
      rw [if_neg (by rw [n_le (by omega) (by omega)]; omega), f1, bnd2_k]
      cases ok with
      | true => rw [if_neg (by decide), if_pos rfl]; simp only [nI_add]
      | false => rw [if_pos (by decide), if_neg (by decide)]; simp only [nI_add]
    · show f_X10_years_46 τ m (nI n) (nI w) (M + 1) T (nI d) (nI k) = f_X10_years_46 τ m (nI n) (nI w) M T1 (nI (if ok = true then d + 1 else d)) (nI (k + 1))
      rw [f_X10_years_46]
      unfold f_X10_years_66
      simp only [litM]
      rw [if_neg (by rw [n_le (by omega) (by omega)]; omega), f2, bnd2_k]
      cases ok with
      | true => rw [if_neg (by decide), if_pos rfl]; simp only [nI_add]
      | false => rw [if_pos (by decide), if_neg (by decide)]; simp only [nI_add, Nat.add_zero]
    · show (if ok = true then d + 1 else d) ≤ k + 1
      have : d ≤ k := hdk
      split <;> omega) FU FU 0 (sI X1 q 6 sd0, 0) (sI Y1 m 34 sd0, 0) (by omega) ⟨rfl, Nat.le_refl _, hI⟩ (by rw [FU_40000]; omega) (by rw [FU_40000]; omega)
  obtain ⟨h1, h2, h3, h4, h5⟩ := hYr
  obtain ⟨X2, Y2, c, f1, f2, f3, f4, f5, f6, f7⟩ := trial_run hq hm h1
  have gT : tabOK σ (q + 18 + 1) := qg.2.2.2.2.2.2.2.1
  have lo : low 20 (X2.1 (q + 18 + 1) 1) := by rw [f6.1.2.1]; exact f6.1.2.2.2.1
  obtain ⟨X3, g1, g2, -, -, g3⟩ := keepAns (X := X2) (i := 6) (x := nI d) (y := nI c) (z := nI (cnt 20 (X2.1 (q + 18 + 1) 1))) hq (by omega)
  refine ⟨X3, Y2, ?_, ?_, h3.trans ((FndF.run f4).trans g2), (FrQ.fld (k := 0) (v := nI 0) (by omega)).trans (h4.trans f5.q), ?_⟩
  · unfold f_X3_findYears
    simp only [litM]
    rw [grd_t q0]
    simp only [ldR, q0, q1, if_true, Option.bind_some]
    rw [e1, Option.bind_some, stI_t q0]
    refine Eq.trans eF ?_
    show f_X3_findYears_19 σ q (nI n) (n1 + 1) S (nI d) (nI n) = _
    rw [f_X3_findYears_19]
    refine Eq.trans (if_pos (Int32.le_refl _)) ?_
    simp only [litM]
    simp only [ldR, q0, q1, q2, qg.1, qg.2.1, if_true, Option.bind_some]
    rw [f1, Option.bind_some, ldI_t qg.1, ldI_t gT.1, f6.2.1.1, s_bitCount lo, g1, Option.bind_some]
  · unfold f_X10_years
    simp only [litM]
    rw [grd_t m0, stI_t m0, s10_isWhat hm z0 (by omega), inR_t (by omega) (by omega), if_pos rfl, bnd2_k, if_neg (by decide), s_win (by omega), inR_t (by omega) (by omega), s10_right hm z0 (Or.inr rfl), if_pos rfl, bnd2_k, if_neg (by decide), e2, Option.bind_some, stI_t m0]
    refine Eq.trans eG ?_
    show f_X10_years_46 τ m (nI n) (nI w) (n2 + 1) T (nI d) (nI n) = _
    rw [f_X10_years_46]
    refine Eq.trans (if_pos (Int32.le_refl _)) ?_
    simp only [litM]
    rw [f2, Option.bind_some, g3 w hw, ldI_t m0, ldI_t m0, f6.2.1.2.1, s_bits, Option.bind_some, f6.1.2.1]
    rcases (show w = 0 ∨ w = 1 ∨ w = 2 by omega) with rfl | rfl | rfl
    · rfl
    · rfl
    · rfl
  · rw [f5.2.2 0 (by omega) (by omega) (by omega), h5, z0]
theorem q_years {σ : Sh} {X : Mx} {a L R z : Nat} {v x y : Int32} (h : IV σ X a L R) : Qry σ a L R (f_X9_years σ X z a v x y) (fun X2 => f_X10_years σ X2 (a + 108) v x y) := by
  have hs := h.1
  have o0 := hs.1.1.1
  have o1 : shR σ a 0 = some (a + 1) := hs.1.1.2.1
  have o5 : shR σ a 5 = some (a + 53) := hs.1.1.2.2.2.2.2.2.1
  have hD := hs.md
  have m0 := hD.1
  cases hy : inR 2 y with
  | false =>
    refine ⟨.inr 0, X, 1, 6, ?_, by omega, by omega, h, fun X2 e2 => ⟨nI 0, sI (sI X2 (a + 108) 0 (nI 0)) (a + 108) 0 (nI 1), ?_, (FrQ.fld (by omega)).trans (FrQ.fld (by omega)), Or.inr ⟨0, rfl, by omega, sI_eq⟩⟩⟩
    · unfold f_X9_years
      rw [grd_t o0, fold_3, hy, if_neg (by decide), bndX_r]
    · show f_X10_years σ X2 (a + 108) v x y = _
      unfold f_X10_years
      simp only [litM]
      rw [grd_t m0, stI_t m0, s10_isWhat hD sI_eq (by omega), hy, if_neg (by decide), bnd2_k, if_pos bI_f]
  | true =>
    obtain ⟨w, hw, rfl⟩ := inR_ex (by omega) hy
    cases hx : inR 60 x with
    | false =>
      refine ⟨.inr 1, X, 1, 6, ?_, by omega, by omega, h, fun X2 e2 => ⟨nI 0, sI (sI X2 (a + 108) 0 (nI 0)) (a + 108) 0 (nI 2), ?_, (FrQ.fld (by omega)).trans (FrQ.fld (by omega)), Or.inr ⟨1, rfl, by omega, sI_eq⟩⟩⟩
      · unfold f_X9_years f_X9_years_14
        rw [grd_t o0, fold_3, hy, if_pos rfl, bndX_l]
        simp only [litM]
        rcases inR_n hx with h | ⟨h1, h2⟩
        · rw [if_pos h]; rfl
        · rw [if_neg h1, if_neg (fun h => by
            have := n_nlt (n := 60) h2 (by omega)
            exact absurd h (Int32.not_le.mpr (of_eq_true this)))]
          rfl
      · show f_X10_years σ X2 (a + 108) v x (nI w) = _
        unfold f_X10_years
        simp only [litM]
        rw [grd_t m0, stI_t m0, s10_isWhat hD sI_eq (by omega), hy, if_pos rfl, bnd2_k, if_neg (by decide), s_win (by omega), hx, s10_right hD sI_eq (Or.inr rfl), if_neg (by decide), bnd2_k, if_pos bI_f]
    | true =>
      obtain ⟨n, hn, rfl⟩ := inR_ex (by omega) hx
      have key : ∀ (Y : Mx), (∀ j, j < 931 → Y.1 (a + 111) j = X.1 (a + 111) j) → ∃ X1 Y1, f_X3_findYears σ X (a + 53) (a + 1) v (nI n) = some X1 ∧ f_X10_years σ Y (a + 108) v (nI n) (nI w) = some (X1.1 (a + 82) (3 * 6 + w), Y1) ∧ FndF X X1 (a + 53) 6 ∧ FrQ Y Y1 (a + 108) ∧ Y1.1 (a + 108) 0 = nI 0 := fun Y hY =>
        years_rel hs.qu hs.2.1 (by omega) hD (h.2.1.1.fr hs.2.1.lr (fun _ _ _ => rfl) (fun j hj => by rw [Nat.zero_add]; exact hY j hj)) hn hw
      obtain ⟨X1, Y0, e1, -, hF, -, -⟩ := key X (fun _ _ => rfl)
      have e : ∀ p, (p < a + 53 ∨ a + 83 < p) → X1.1 p = X.1 p := fun p hp => hF.2.1 p (by omega)
      refine ⟨.inl (X1.1 (a + 82) (3 * 6 + w)), X1, 0, 0, ?_, by omega, by omega, ?_, fun X2 ex => ?_⟩
      · unfold f_X9_years
        rw [grd_t o0, fold_3, hy, if_pos rfl, bndX_l]
        simp only [litM]
        rw [if_neg (by rw [n_lt (by omega) (by omega)]; omega), if_pos (by rw [n_le (by omega) (by omega)]; omega)]
        simp only [ldR, o0, o1, o5, if_true, Option.bind_some]
        rw [e1, Option.bind_some, s_answerTo hs.qu (by omega) hw, Option.bind_some]
        rfl
      · obtain ⟨-, hc, hm, hq⟩ := id h
        refine ⟨hs, hc.frC hs ⟨hF.1, fun q _ _ hq => e q hq, fun j _ => by rw [e a (by omega)]⟩, hm.fr hs.lr (by rw [e a (by omega)]) (fun q h1 h2 => e q (by omega)) (fun j _ => by rw [e _ (by omega)]), fun q hq6 => ?_⟩
        have e81 : X1.1 (a + 81) q = X.1 (a + 81) q := hF.2.2.1 q (by omega)
        rw [e81]
        refine (hq q hq6).imp_right (fun hh => hh.fr2 (fun w hw => hF.2.2.2 _ (by omega)) (fun j _ => by rw [e _ (by omega)]) (by rw [e _ (by omega)]) (fun j _ => by rw [e _ (by omega)]))
      · obtain ⟨X1', Y1, k1, k2, -, k3, k4⟩ := key X2 (fun j _ => by rw [ex, e _ (by omega)])
        rw [e1] at k1
        cases k1
        exact ⟨_, Y1, k2, k3, Or.inl ⟨_, rfl, k4, rfl⟩⟩
