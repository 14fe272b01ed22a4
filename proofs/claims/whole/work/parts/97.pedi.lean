/-! ===== edited ===== -/
theorem StC.fz {X Z Z1 : Nat → Nat → Int32} {s L R t : Nat} (h : StC X s L R Z t (t + 5) (t + 9)) (hZ : ∀ q, t ≤ q → q ≤ t + 16 → Z1 q = Z q) : StC X s L R Z1 t (t + 5) (t + 9) := by
  obtain ⟨h1, h2, h3, h4, h5, h6, h7, h8⟩ := h
  unfold StC
  rw [hZ t (by omega) (by omega), hZ (t + 13) (by omega) (by omega), hZ (t + 14) (by omega) (by omega), hZ (t + 15) (by omega) (by omega), hZ (t + 16) (by omega) (by omega)]
  refine ⟨fun p q hp => ?_, h2, h3, h4, h5, h6, h7, h8⟩
  have hq : t + 1 ≤ q ∧ q ≤ t + 9 := by omega
  rw [hZ q (by omega) (by omega), hZ (q + 1) (by omega) (by omega), hZ (q + 2) (by omega) (by omega), hZ (q + 3) (by omega) (by omega)]
  exact h1 p q hp
def SeenW (X : Nat → Nat → Int32) (n : Nat) (Y : Nat → Nat → Int32) (m : Nat) : Prop := ∃ k, k ≤ 8 ∧ X n 0 = nI k ∧ Y m 32 = nI k ∧ ∀ i, i < k → ∃ p q, p < 20 ∧ q < 9 ∧ X (n + 1) i = nI p ∧ X (n + 2) i = nI q ∧ Y (m + 14) (3 * i) = nI p ∧ Y (m + 14) (3 * i + 1) = nI q ∧ X (n + 3) i = Y (m + 14) (3 * i + 2)
theorem SeenW.fr {X X1 Y Y1 : Nat → Nat → Int32} {n m : Nat} (h : SeenW X n Y m) (hX : ∀ q, n ≤ q → q ≤ n + 3 → X1 q = X q) (h32 : Y1 m 32 = Y m 32) (hY : ∀ j, j < 24 → Y1 (m + 14) j = Y (m + 14) j) : SeenW X1 n Y1 m := by
  obtain ⟨k, h1, h2, h3, h4⟩ := h
  unfold SeenW
  rw [hX n (by omega) (by omega), hX (n + 1) (by omega) (by omega), hX (n + 2) (by omega) (by omega), hX (n + 3) (by omega) (by omega), h32]
  refine ⟨k, h1, h2, h3, fun i hi => ?_⟩
  obtain ⟨p, q, g1, g2, g3, g4, g5, g6, g7⟩ := h4 i hi
  exact ⟨p, q, g1, g2, g3, g4, (hY _ (by omega)).trans g5, (hY _ (by omega)).trans g6, g7.trans (hY _ (by omega)).symm⟩
theorem seen_rel {σ τ : Sh} {X Y : Mx} {n g m : Nat} {nm t u o : Nat → Int32} (hn : snOK σ n) (hg : tabOK σ g) (hm : mdOK τ m) (hW : SeenW X.1 n Y.1 m) (hT : TR 180 (X.1 g) (X.1 (g + 1)) (X.1 (g + 2)) (X.1 (g + 3)) o (Y.1 m 20) (Y.1 m 21) nm t (Y.1 (m + 7)) u) : ∃ b, f_X4_isSo σ X n g = some (bI b) ∧ f_X10_isSeen_7 τ m FU Y (nI 0) = some (bI b, Y) := by
  obtain ⟨k, hk, h0, h32, hS⟩ := hW
  obtain ⟨n0, n1, n2, n3, k1, l1, k2, l2, k3, l3⟩ := hn
  have hmm := id hm
  obtain ⟨m0, m1, m2, m3, m4, m5, m6, m7, m8, m9, m10, m11, m12, m13, m14, m15, m16, m17, mq1, mq2, mq3, mq4, mq5, mq6, mq7, mq8, mq9, mq10, mq11, mq12, mq13, mq14, mq15, mq16, mq17, mn1, mn2, mn3, mn4, mn5, mn6, mn7, mn8, mn9, mn10, mn11, mn12, mn13, mn14, mn15, mn16, mn17⟩ := hm
  have key : ∀ r i N M, i + r = k → r < N → r < M → ∃ b, f_X4_isSo_2 σ X n g N (nI i) = some (bI b) ∧ f_X10_isSeen_7 τ m M Y (nI i) = some (bI b, Y) := by
    intro r
    induction r with
    | zero =>
      intro i N M hi hN hM
      obtain ⟨N, rfl⟩ : ∃ N', N = N' + 1 := ⟨N - 1, by omega⟩
      obtain ⟨M, rfl⟩ : ∃ N', M = N' + 1 := ⟨M - 1, by omega⟩
      refine ⟨true, ?_, ?_⟩
      · rw [f_X4_isSo_2]
        simp only [litM]
        rw [ldI_t n0, h0, if_pos (by rw [n_le (by omega) (by omega)]; omega)]
        rfl
      · rw [f_X10_isSeen_7]
        simp only [litM]
        rw [ldI_t m0, h32, if_pos (by rw [n_le (by omega) (by omega)]; omega)]
        rfl
    | succ r ih =>
      intro i N M hi hN hM
      obtain ⟨N, rfl⟩ : ∃ N', N = N' + 1 := ⟨N - 1, by omega⟩
      obtain ⟨M, rfl⟩ : ∃ N', M = N' + 1 := ⟨M - 1, by omega⟩
      obtain ⟨p, q, g1, g2, g3, g4, g5, g6, g7⟩ := hS i (by omega)
      obtain ⟨b, e1, e2⟩ := ih (i + 1) N M (by omega) (by omega) (by omega)
      obtain ⟨t1, t2, -, -, -, t6, -⟩ := hT
      have cc : f_X4_isSo_2 σ X n g (N + 1) (nI i) = if (bt (Y.1 m 21) p && bt (Y.1 m 20) q) = true then (if X.1 (g + 3) (9 * p + q) = X.1 (n + 3) i then some (bI b) else some (nI 0)) else some (nI 0) := by
        rw [f_X4_isSo_2]
        simp only [litM]
        rw [ldI_t n0, h0, if_neg (by rw [n_le (by omega) (by omega)]; omega), if_neg (by rw [n_le (by omega) (by omega)]; omega)]
        simp only [ldR, n0, n1, n2, n3, if_true, Option.bind_some]
        rw [ldA_t k1 (by omega) (by omega), ldA_t k2 (by omega) (by omega), g3, g4, s_hasCell hg, inB_n g1 (by omega), inB_n g2 (by omega), t1, t2, Option.bind_some, ldA_t k1 (by omega) (by omega), ldA_t k2 (by omega) (by omega), g3, g4, s_numberAt hg g1 g2, Option.bind_some, ldA_t k3 (by omega) (by omega), nI_add, e1]
        cases (bt (Y.1 m 21) p && bt (Y.1 m 20) q) <;> rfl
      have mm : f_X10_isSeen_7 τ m (M + 1) Y (nI i) = if (bt (Y.1 m 21) p && bt (Y.1 m 20) q) = true then (if Y.1 (m + 7) (9 * p + q) = X.1 (n + 3) i then some (bI b, Y) else some (nI 0, Y)) else some (nI 0, Y) := by
        rw [f_X10_isSeen_7]
        simp only [litM]
        rw [ldI_t m0, h32, if_neg (by rw [n_le (by omega) (by omega)]; omega)]
        simp only [ldR, m0, m14, if_true, Option.bind_some, nI_mul, nI_add]
        rw [ldA_t mq14 (by omega) (by omega), ldA_t mq14 (by omega) (by omega), g5, g6, ldI_t m0, bt_d (by omega), ldI_t m0, bt_d (by omega), s10_mergedAt hmm g1 g2, Option.bind_some, ldA_t mq14 (by omega) (by omega), g7, e2]
        cases bt (Y.1 m 21) p <;> cases bt (Y.1 m 20) q <;> rfl
      cases e3 : bt (Y.1 m 21) p && bt (Y.1 m 20) q with
      | false =>
        rw [e3, if_neg (by decide)] at cc mm
        exact ⟨false, cc, mm⟩
      | true =>
        rw [e3, if_pos rfl] at cc mm
        have b1 := Bool.and_eq_true_iff.mp e3
        rw [(t6 p q g1 g2 (by omega) b1.1 b1.2).1] at cc
        by_cases e4 : Y.1 (m + 7) (9 * p + q) = X.1 (n + 3) i
        · rw [if_pos e4] at cc mm
          exact ⟨b, cc, mm⟩
        · rw [if_neg e4] at cc mm
          exact ⟨false, cc, mm⟩
  obtain ⟨b, e1, e2⟩ := key k 0 FU FU (by omega) (by rw [FU_40000]; omega) (by rw [FU_40000]; omega)
  refine ⟨b, ?_, e2⟩
  unfold f_X4_isSo
  simp only [litM]
  rw [grd_t n0]
  exact e1
/-- between two tries: what is tried is as the State, and nothing else was touched -/
def EdI (X0 Y0 : Mx) (q m s L R : Nat) (X Y : Mx) : Prop := StC X0.1 s L R X.1 (q + 1) (q + 1 + 5) (q + 1 + 9) ∧ FndF X0 X q 5 ∧ FrQ Y0 Y m ∧ Y.1 m 0 = Y0.1 m 0
theorem ed_num {σ τ : Sh} {X0 Y0 X Y : Mx} {q m s L R n k c : Nat} {x : Int32} (hq : quOK σ q) (hs : stOK σ s L R) (hd : s + 16 < q) (hn : snOK σ n) (hdn : n + 3 < q) (hm : mdOK τ m) (hS : StR X0.1 s L R (Y0.1 (m + 3)) 0) (hW : SeenW X0.1 n Y0.1 m) (hk : k < 20) (hc : c < 9) (bk : bt (X0.1 R 1) k = true) (bc : bt (X0.1 R 0) c = true) (h : EdI X0 Y0 q m s L R X Y) :
    ∃ ok X1 Y1, f_X3_wouldBeSo σ X q s n (nI k) (nI c) x = some (bI ok, X1) ∧ EdI X0 Y0 q m s L R X1 Y1 ∧ ∀ (ρ : Type) (K0 K1 : Mx → Option ρ), ((f_X10_tries τ Y m).bind fun X2 => bnd2 (f_X10_sets τ X2 m (nI 931) (nI 1) (nI k) (nI c) x) fun v5 X4 => if v5 = nI 0 then K0 X4 else bnd2 (f_X10_isSeen τ X4 m (nI 931)) fun v8 X7 => if v8 = nI 0 then K0 X7 else K1 X7) = if ok = true then K1 Y1 else K0 Y1 := by
  obtain ⟨hC, hF, hQ, h0⟩ := h
  obtain ⟨q0, q1, q2, q3, q4, q5, qs, qg, k28, n28, k29, n29, k30, n30⟩ := id hq
  have lr := hs.lr
  have m0 := hm.1
  -- the reference tries
  obtain ⟨Y2, hY2⟩ : ∃ Y2, Y2 = wF Y (m + 3) (fun j => if 931 ≤ j ∧ j < 931 + 931 then Y.1 (m + 3) (0 + (j - 931)) else Y.1 (m + 3) j) := ⟨_, rfl⟩
  have e2 : f_X10_tries τ Y m = some Y2 := by rw [hY2]; exact s10_tries hm
  have y2a : ∀ j, j < 931 → Y2.1 (m + 3) j = Y.1 (m + 3) j := fun j hj => by rw [hY2, wF_at, if_neg (by omega)]
  have y2b : ∀ j, j < 931 → Y2.1 (m + 3) (931 + j) = Y0.1 (m + 3) j := fun j hj => by rw [hY2, wF_at, if_pos (by omega), Nat.zero_add, Nat.add_sub_cancel_left]; exact hQ.2.2.2 j hj
  have y2q : ∀ p, p ≠ m + 3 → Y2.1 p = Y.1 p := fun p hp => by rw [hY2, wF_fn hp]
  have f2 : FrQ Y Y2 m := FrQ.of3 (by rw [hY2]; rfl) y2q y2a
  have hS2 : StR X.1 (q + 1) (q + 1 + 5) (q + 1 + 9) (Y2.1 (m + 3)) 931 := hS.cp hC (fun j hj => by rw [Nat.zero_add]; exact y2b j hj)
  obtain ⟨ok, X1, Y3, s1, s2, ⟨s3, s4, s5, s6⟩⟩ := ed_set (t := 1) (x := nI k) (y := nI c) (z := x) qs hm (by omega) (by omega) hS2
  rw [show sd 1 (q + 1 + 5) (q + 1 + 9) = q + 1 + 9 from rfl] at s1
  have xq : ∀ p, p < q → X.1 p = X0.1 p := fun p hp => hF.2.1 p (by omega)
  obtain ⟨c1, c2, c3, c4, c5⟩ := hC.1 R (q + 1 + 9) (Or.inr (Or.inr ⟨rfl, rfl⟩))
  have tR : tabOK σ R := hs.2.2.2.2.2.2.2.2.2.2.1
  have tQ : tabOK σ (q + 1 + 9) := qs.2.2.2.2.2.2.2.2.2.2.1
  have w0 : X.1 (R + 3) (9 * k + c) = X.1 (q + 1 + 9 + 3) (9 * k + c) := by rw [c5 _ (by omega), xq _ (by omega)]
  have w1 : X.1 (R + 2) c = X.1 (q + 1 + 9 + 2) c := by rw [c4 _ (by omega), xq _ (by omega)]
  have rK : shR σ s 2 = some R := hs.2.2.2.1
  have s0 := hs.1
  -- what the class does
  have hcl : f_X3_wouldBeSo σ X q s n (nI k) (nI c) x = (if x = X.1 (q + 1 + 9 + 3) (9 * k + c) then some (nI 0, X) else if f_X8_holds (X.1 (q + 1 + 9 + 2) c) x = nI 0 then some (nI 0, X) else (f_X2_run σ (sI X (q + 1 + 9 + 3) (9 * k + c) x) (q + 18) (q + 1)).bind fun X14 => (f_X4_isSo σ (sI X14 (q + 1 + 9 + 3) (9 * k + c) (X.1 (q + 1 + 9 + 3) (9 * k + c))) n (q + 18 + 1)).bind fun v22 => grd (v22 = nI 0 ∨ v22 = nI 1) (some (v22, sI X14 (q + 1 + 9 + 3) (9 * k + c) (X.1 (q + 1 + 9 + 3) (9 * k + c))))) := by
    unfold f_X3_wouldBeSo
    simp only [litM]
    rw [grd_t q0]
    obtain ⟨h1, h2, h3, h4, h5, h6, h7, h8, h9, h10⟩ := id tR
    simp only [ldR, s0, rK, h1, h3, q0, q1, q2, qs.1, qs.2.2.2.1, qg.1, qg.2.1, if_true, Option.bind_some]
    rw [s_numberAt tR hk hc, Option.bind_some, ldA_t h7 (by omega) (by omega), s_putNumber tQ hk hc, Option.bind_some, w0, w1]
    refine ifc rfl rfl (ifc rfl rfl ?_)
    refine congrArg (fun z => Option.bind _ z) (funext fun X14 => ?_)
    rw [s_putNumber tQ hk hc, Option.bind_some]
  have hst : f_X5_setNumber σ X (q + 1) (q + 1 + 9) (nI k) (nI c) x = (if X.1 (q + 1 + 9 + 3) (9 * k + c) = x then some (nI 0, X) else if f_X8_holds (X.1 (q + 1 + 9 + 2) c) x = nI 0 then some (nI 0, X) else some (nI 1, sI X (q + 1 + 9 + 3) (9 * k + c) x)) := by
    unfold f_X5_setNumber
    simp only [litM]
    rw [grd_t qs.1, s_hasCell tQ, Option.bind_some, inB_n hk (by omega), inB_n hc (by omega), c1, c2, bk, bc, if_neg (by decide), s_numberAt tQ hk hc, Option.bind_some]
    obtain ⟨h1, h2, h3, h4, h5, h6, h7, h8, h9, h10⟩ := id tQ
    simp only [ldR, h1, h3, if_true, Option.bind_some]
    rw [ldA_t h7 (by omega) (by omega), s_putNumber tQ hk hc, Option.bind_some]
  rw [s1] at hst
  by_cases ev : x = X.1 (q + 1 + 9 + 3) (9 * k + c)
  · rw [if_pos ev.symm] at hst
    rw [if_pos ev] at hcl
    have okf : ok = false := by
      have := (Prod.mk.inj (Option.some.inj hst)).1
      cases ok with
      | false => rfl
      | true => exact absurd this (by decide)
    subst okf
    obtain ⟨-, hY3⟩ := s6 rfl
    subst hY3
    refine ⟨false, X, Y3, hcl, ⟨hC, hF, hQ.trans f2, by rw [y2q m (by omega)]; exact h0⟩, fun ρ K0 K1 => ?_⟩
    rw [e2, Option.bind_some]
    refine Eq.trans (congrArg (fun z => bnd2 z _) s2) ?_
    rw [bnd2_k, if_pos bI_f, if_neg (by decide)]
  · rw [if_neg (fun q => ev q.symm)] at hst
    rw [if_neg ev] at hcl
    by_cases eh : f_X8_holds (X.1 (q + 1 + 9 + 2) c) x = nI 0
    · rw [if_pos eh] at hst hcl
      have okf : ok = false := by
        have := (Prod.mk.inj (Option.some.inj hst)).1
        cases ok with
        | false => rfl
        | true => exact absurd this (by decide)
      subst okf
      obtain ⟨-, hY3⟩ := s6 rfl
      subst hY3
      refine ⟨false, X, Y3, hcl, ⟨hC, hF, hQ.trans f2, by rw [y2q m (by omega)]; exact h0⟩, fun ρ K0 K1 => ?_⟩
      rw [e2, Option.bind_some]
      refine Eq.trans (congrArg (fun z => bnd2 z _) s2) ?_
      rw [bnd2_k, if_pos bI_f, if_neg (by decide)]
    · rw [if_neg eh] at hst hcl
      have okt : ok = true := by
        have := (Prod.mk.inj (Option.some.inj hst)).1
        cases ok with
        | true => rfl
        | false => exact absurd this (by decide)
      have hX1 := (Prod.mk.inj (Option.some.inj hst)).2
      subst okt
      obtain ⟨X2, Y4, nn, r1, r2, r3, r4, r5, r6, r7⟩ := trial_run hq hm s3
      obtain ⟨X4, hX4⟩ : ∃ X4, X4 = sI X2 (q + 1 + 9 + 3) (9 * k + c) (X.1 (q + 1 + 9 + 3) (9 * k + c)) := ⟨_, rfl⟩
      have x4 : ∀ p, p ≠ q + 1 + 9 + 3 → (p < q + 18 ∨ q + 27 < p) → X4.1 p = X.1 p := fun p h1 h2 => by
        rw [hX4, sI_ne h1, r4.2 p (by omega), hX1, sI_ne h1]
      have x4b : X4.1 (q + 1 + 9 + 3) = X.1 (q + 1 + 9 + 3) := by
        funext j
        by_cases e : j = 9 * k + c
        · rw [e, hX4, sI_eq]
        · rw [hX4, sI_nk e, r4.2 _ (by omega), hX1, sI_nk e]
      have x4g : ∀ p, p ≠ q + 1 + 9 + 3 → X4.1 p = X2.1 p := fun p h1 => by rw [hX4, sI_ne h1]
      have fY : FrQ Y Y4 m := f2.trans ((FrQ.of3 s5.1 s5.2.1 (fun j hj => s5.2.2 j (by omega))).trans r5.q)
      obtain ⟨b, t1, t2⟩ := seen_rel (X := X4) (Y := Y4) (g := q + 18 + 1) hn qg.2.2.2.2.2.2.2.1 hm (hW.fr (fun p h1 h2 => by rw [x4 p (by omega) (by omega), xq p (by omega)]) ((hQ.trans fY).2.2.1 32 (by omega)) (fun j _ => by rw [(hQ.trans fY).2.1 (m + 14) (by omega)])) (by
        have := r6.1
        rw [x4g (q + 18 + 1) (by omega), x4g (q + 18 + 1 + 1) (by omega), x4g (q + 18 + 1 + 2) (by omega), x4g (q + 18 + 1 + 3) (by omega)]
        exact this)
      refine ⟨b, X4, Y4, ?_, ⟨hC.fz (fun p h1 h2 => ?_), hF.trans (FndF.of ?_ (fun p h1 h2 => x4 p (by omega) (by omega))), hQ.trans fY, ?_⟩, fun ρ K0 K1 => ?_⟩
      · rw [hcl]
        rw [← hX1, r1, Option.bind_some, ← hX4, t1, Option.bind_some, grd_t (of_eq_true (bI_01 b))]
      · by_cases e : p = q + 1 + 9 + 3
        · rw [e]; exact x4b
        · exact x4 p e (by omega)
      · rw [hX4, sI_2, r4.1, s4.1]
      · rw [r5.2.2 0 (by omega) (by omega) (by omega), s5.2.1 m (by omega), y2q m (by omega)]; exact h0
      · rw [e2, Option.bind_some]
        refine Eq.trans (congrArg (fun z => bnd2 z _) s2) ?_
        rw [bnd2_k, if_neg (by decide)]
        unfold f_X10_isSeen
        simp only [litM]
        rw [grd_t m0, r2, Option.bind_some, t2, bnd2_k]
        cases b <;> rfl
