theorem ifF {ρ : Type} {b : Bool} {x y : ρ} : (if b = false then x else y) = (if b = true then y else x) := by
  cases b <;> rfl
/-! ===== names that clash ===== -/
theorem php : ∀ (N : Nat) (f : Nat → Nat), ¬ (∀ n, n ≤ N → ∃ c, c < N ∧ f c = n) := by
  intro N
  induction N with
  | zero => intro f h; obtain ⟨c, hc, -⟩ := h 0 (Nat.le_refl _); omega
  | succ N ih =>
    intro f h
    obtain ⟨c0, hc0, e0⟩ := h (N + 1) (Nat.le_refl _)
    refine ih (fun c => if c = c0 then f N else f c) (fun n hn => ?_)
    obtain ⟨c, hc, e⟩ := h n (by omega)
    have hne : c ≠ c0 := fun q => by rw [q, e0] at e; omega
    by_cases hcN : c = N
    · refine ⟨c0, by omega, ?_⟩
      show (if c0 = c0 then f N else f c0) = n
      rw [if_pos rfl, ← hcN]; exact e
    · refine ⟨c, by omega, ?_⟩
      show (if c = c0 then f N else f c) = n
      rw [if_neg hne]; exact e
theorem leastB {p : Nat → Bool} : ∀ N, (∃ k, k < N ∧ p k = false) → ∃ q, q < N ∧ p q = false ∧ ∀ k, k < q → p k = true := by
  intro N
  induction N with
  | zero => intro ⟨k, hk, _⟩; omega
  | succ N ih =>
    intro ⟨k, hk, hp⟩
    by_cases h : ∃ k, k < N ∧ p k = false
    · obtain ⟨q, q1, q2, q3⟩ := ih h; exact ⟨q, by omega, q2, q3⟩
    · have hkN : k = N := by
        by_cases e : k = N
        · exact e
        · exact absurd ⟨k, by omega, hp⟩ h
      refine ⟨k, hk, hp, fun j hj => ?_⟩
      cases e : p j with
      | true => rfl
      | false => exact absurd ⟨j, by omega, e⟩ h
theorem find_loop {ρ : Type} {F : Nat → Nat → Option ρ} {G : Nat → Option ρ} {p : Nat → Bool} {N q : Nat} (hq : q < N) (h0 : p q = false) (h1 : ∀ k, k < q → p k = true) (step : ∀ n k, k < N → F (n + 1) k = if p k = true then F n (k + 1) else G k) : ∀ n k, k ≤ q → q < n + k → F n k = G q := by
  intro n
  induction n with
  | zero => intro k a b; omega
  | succ n ih =>
    intro k a b
    rw [step n k (by omega)]
    by_cases e : k = q
    · subst e; rw [h0, if_neg (by decide)]
    · rw [h1 k (by omega), if_pos rfl]; exact ih (k + 1) (by omega) (by omega)
/-- among ten names one isn't had by nine columns -/
theorem free_name (h : Int32) (nm : Nat → Int32) : ∃ q, q < 10 ∧ anyB (fun j => bt h j && decide (nm j = nI q)) 9 = false := by
  by_cases hx : ∃ q, q < 10 ∧ anyB (fun j => bt h j && decide (nm j = nI q)) 9 = false
  · exact hx
  · exfalso
    have hall : ∀ q, q ≤ 9 → ∃ c, c < 9 ∧ (nm c).toBitVec.toNat = q := by
      intro q hq
      cases e : anyB (fun j => bt h j && decide (nm j = nI q)) 9 with
      | false => exact absurd ⟨q, by omega, e⟩ hx
      | true =>
        obtain ⟨c, hc, e2⟩ := anyB_ex e
        refine ⟨c, hc, ?_⟩
        have e3 : nm c = nI q := by simpa using (Bool.and_eq_true _ _ |>.mp e2).2
        rw [e3, nI_bv, BitVec.toNat_ofNat, Nat.mod_eq_of_lt (by omega)]
    exact php 9 _ hall
theorem s_isNameAhead {σ : Sh} {X : Mx} {g c : Nat} (hg : mgOK σ g) (hc : c < 9) : f_X2_isNameAhead σ X g (nI c) = some (bI (anyB (fun j => bt (X.1 (g + 1) 0) j && decide (X.1 (g + 2) j = X.1 (g + 2) c)) c)) := by
  have hg' := hg
  obtain ⟨g0, g1, g2, g3, g4, g5, g6, gT, k5, l5, k6, l6, k7, l7, k8, l8, k9, l9⟩ := hg
  have hT := gT
  obtain ⟨h1, h2, h3, h4, h5, h6, h7, h8, h9, h10⟩ := gT
  unfold f_X2_isNameAhead
  rw [grd_t g0]
  have := any_loop (F := fun n k => f_X2_isNameAhead_2 σ X g (nI c) n (nI k)) (N := c) (p := fun j => bt (X.1 (g + 1) 0) j && decide (X.1 (g + 2) j = X.1 (g + 2) c)) (e := false) (by
    intro n k hk
    rw [f_X2_isNameAhead_2]
    simp (disch := first | assumption | omega) only [litM, grd_t, grd_T, ldI_t, stI_t, ldA_t, stA_t, lenA_t, n_lt_t, n_lt_f, n_le_t, n_le_f, n_eq_t, n_eq_f, if_true, if_false, nI_add, nI_mul, bt_d, bI_z, bI_o, Option.bind_some, Bool.true_eq_false, Bool.false_eq_true, ldR, eq_self, if_true, Option.bind_some, g0, g1, h1, h2, s_hasColumn hT, inB_n, f_X2_isNameAhead_47]
    cases bt (X.1 (g + 1) 0) k
    · simp
    · by_cases e : X.1 (g + 1 + 1) k = X.1 (g + 1 + 1) c <;> simp [e]) (by
    intro n
    rw [f_X2_isNameAhead_2]
    simp (disch := first | assumption | omega) only [litM, grd_t, grd_T, ldI_t, stI_t, ldA_t, stA_t, lenA_t, n_lt_t, n_lt_f, n_le_t, n_le_f, n_eq_t, n_eq_f, if_true, if_false, nI_add, nI_mul, bt_d, bI_z, bI_o, Option.bind_some, Bool.true_eq_false, Bool.false_eq_true, bI_f]) FU 0 (by omega) (by have : FU = 40000 := rfl; omega) rfl
  rw [Bool.or_false] at this
  exact this
theorem s10_isNamed {τ : Sh} {Y : Mx} {m k : Nat} {x : Int32} (hm : mdOK τ m) (hk : k ≤ 9) : f_X10_isNamed τ Y m x (nI k) = some (bI (anyB (fun j => bt (Y.1 m 20) j && decide (Y.1 (m + 5) j = x)) k)) := by
  obtain ⟨m0, m1, m2, m3, m4, m5, m6, m7, m8, m9, m10, m11, m12, m13, m14, m15, m16, m17, mq1, mq2, mq3, mq4, mq5, mq6, mq7, mq8, mq9, mq10, mq11, mq12, mq13, mq14, mq15, mq16, mq17, mn1, mn2, mn3, mn4, mn5, mn6, mn7, mn8, mn9, mn10, mn11, mn12, mn13, mn14, mn15, mn16, mn17⟩ := hm
  unfold f_X10_isNamed
  rw [grd_t m0]
  have := any_loop (F := fun n j => f_X10_isNamed_2 τ Y m x (nI k) n (nI j)) (N := k) (p := fun j => bt (Y.1 m 20) j && decide (Y.1 (m + 5) j = x)) (e := false) (by
    intro n j hj
    rw [f_X10_isNamed_2]
    simp (disch := first | assumption | omega) only [litM, grd_t, grd_T, ldI_t, stI_t, ldA_t, stA_t, lenA_t, n_lt_t, n_lt_f, n_le_t, n_le_f, n_eq_t, n_eq_f, if_true, if_false, nI_add, nI_mul, bt_d, bI_z, bI_o, Option.bind_some, Bool.true_eq_false, Bool.false_eq_true, ldR, eq_self, if_true, Option.bind_some, m0, m5, f_X10_isNamed_31]
    cases bt (Y.1 m 20) j
    · simp
    · by_cases e : Y.1 (m + 5) j = x <;> simp [e]) (by
    intro n
    rw [f_X10_isNamed_2]
    simp (disch := first | assumption | omega) only [litM, grd_t, grd_T, ldI_t, stI_t, ldA_t, stA_t, lenA_t, n_lt_t, n_lt_f, n_le_t, n_le_f, n_eq_t, n_eq_f, if_true, if_false, nI_add, nI_mul, bt_d, bI_z, bI_o, Option.bind_some, Bool.true_eq_false, Bool.false_eq_true, bI_f]) FU 0 (by omega) (by have : FU = 40000 := rfl; omega) rfl
  rw [Bool.or_false] at this
  exact this
theorem MI.name {B n g m c : Nat} {P : Nat → Prop} {ch : Nat → Int32} {Lh Rh : Int32} {X0 X Y0 Y : Mx} {v : Int32} (h : MI B P n ch Lh Rh X0 X g Y0 Y m) : MI B P n ch Lh Rh X0 (sI X (g + 2) c v) g Y0 (sI Y (m + 5) c v) m := by
  obtain ⟨f1, f2, ⟨t1, t2, t3, t4, t5, t6, t7⟩, cf, u, sr⟩ := h
  refine ⟨⟨f1.1, fun q hq => ?_⟩, ⟨f2.1, fun q h1 h2 => ?_, fun j h1 h2 h3 => ?_⟩, ?_, ?_, ?_, ?_⟩
  · rw [sI_ne (by omega)]; exact f1.2 q hq
  · rw [sI_ne (by omega)]; exact f2.2.1 q h1 h2
  · rw [sI_na (by omega)]; exact f2.2.2 j h1 h2 h3
  · simp (disch := first | assumption | omega) only [sI_na, sI_ne]
    refine ⟨t1, t2, t3, t4, fun j hj hbj => ?_, t6, t7⟩
    by_cases e : j = c
    · subst e; rw [sI_eq, sI_eq]; exact ⟨rfl, (t5 j hj hbj).2⟩
    · rw [sI_nk e, sI_nk e]; exact t5 j hj hbj
  · simp (disch := first | assumption | omega) only [sI_na, sI_ne]; exact cf
  · simp (disch := first | assumption | omega) only [sI_na, sI_ne]; exact u
  · simp (disch := first | assumption | omega) only [sI_na, sI_ne]; exact sr
theorem MI.takeC {n g m c : Nat} {P : Nat → Prop} {ch : Nat → Int32} {Lh Rh : Int32} {X0 X Y0 Y : Mx} (h : MI 0 P n ch Lh Rh X0 X g Y0 Y m) (hc : c < 9) : MI 0 P n ch Lh Rh X0 (sI (wF X (g + 4) (fun j => if j % 9 = c ∧ j < 180 then nI 9999 else X.1 (g + 4) j)) (g + 1) 0 (X.1 (g + 1) 0 &&& (((1 : Int32) <<< (nI c &&& 31)) ^^^ (-1)))) g Y0 (sI Y m 20 (Y.1 m 20 &&& (((1 : Int32) <<< (nI c &&& 31)) ^^^ (-1)))) m := by
  obtain ⟨f1, f2, ⟨t1, t2, t3, t4, t5, t6, t7⟩, cf, u, sr⟩ := h
  refine ⟨⟨f1.1, fun q hq => ?_⟩, ⟨f2.1, fun q h1 h2 => ?_, fun j h1 h2 h3 => ?_⟩, ?_, ?_, ?_, ?_⟩
  · rw [sI_ne (by omega), wF_fn (by omega)]; exact f1.2 q hq
  · rw [sI_ne (by omega)]; exact f2.2.1 q h1 h2
  · rw [sI_nk (by omega)]; exact f2.2.2 j h1 h2 h3
  · simp (disch := first | assumption | omega) only [sI_na, sI_ne, sI_eq, sI_nk, wF_fn, wF_af]
    refine ⟨by rw [sI_eq, t1], by rw [sI_nk (by omega), wF_na (by omega)]; exact t2, low_clr t3 (by omega), t4, fun j hj hbj => ?_, fun j d hj hd h0 => by omega, fun j d hj hd h0 => ?_⟩
    · rw [bt_clr (by omega)] at hbj
      exact t5 j hj (Bool.and_eq_true _ _ |>.mp hbj).1
    · show (if (9 * j + d) % 9 = c ∧ 9 * j + d < 180 then nI 9999 else X.1 (g + 4) (9 * j + d)) = nI 9999
      split
      · rfl
      · exact t7 j d hj hd (Or.inr (Or.inr (by omega)))
  · simp (disch := first | assumption | omega) only [sI_na, sI_ne, sI_nk, wF_fn, wF_na]; exact cf
  · simp (disch := first | assumption | omega) only [sI_na, sI_ne, sI_nk, wF_fn, wF_na]; exact u
  · simp (disch := first | assumption | omega) only [sI_na, sI_ne, sI_eq, wF_fn]
    intro j hj hbj
    rw [bt_clr (by omega)] at hbj
    exact sr j hj (Bool.and_eq_true _ _ |>.mp hbj).1
theorem nam_rel {σ τ : Sh} {n g m s L R b c N M : Nat} {ch : Nat → Int32} {Lh Rh : Int32} {X0 X Y0 Y : Mx} (hg : mgOK σ g) (hs : stOK σ s L R) (hm : mdOK τ m) (hb : b ≤ 931) (hd : s + 16 < g ∨ g + 9 < s) (hS0 : StR X0.1 s L R (Y0.1 (m + 3)) b) (hch : ch = X0.1 (s + 16)) (hc : c < 9) (h : MI 0 (fun j => j < 27 + c) n ch Lh Rh X0 X g Y0 Y m) (hn : n ≤ 10 + c) (hk : ∀ j, bt (Y.1 m 21) j = false) :
    ∃ X1 Y1, f_X2_partNames_2 σ g s (N + 1) X (nI c) = f_X2_partNames_2 σ g s N X1 (nI (c + 1)) ∧ f_X10_mergesNames_2 τ m (nI b) (M + 1) Y (nI c) = f_X10_mergesNames_2 τ m (nI b) M Y1 (nI (c + 1)) ∧ ∃ n1, n1 ≤ 10 + (c + 1) ∧ MI 0 (fun j => j < 27 + (c + 1)) n1 ch Lh Rh X0 X1 g Y0 Y1 m ∧ (∀ j, bt (Y1.1 m 21) j = false) := by
  have hS := h.st hs hd hS0
  have hmono := h.mono (Q := fun j => j < 27 + (c + 1)) (fun j _ q => by omega)
  have xC : X.1 (s + 16) = X0.1 (s + 16) := h.1.2 _ (by omega)
  obtain ⟨t1, t2, t3, t4, t5, t6, t7⟩ := h.2.2.1
  have hm' := hm
  have hg' := hg
  -- both see whether the column is there, and its name ahead
  have ec : f_X2_partNames_2 σ g s (N + 1) X (nI c) = if bt (Y.1 m 20) c = true then (if anyB (fun j => bt (Y.1 m 20) j && decide (Y.1 (m + 5) j = Y.1 (m + 5) c)) c = true then bnd2 (f_X2_ask σ X g s (f_X1_idOf (nI 3) (nI c) (nI 0)) (-(nI 1)) (-(nI 1))) (fun v8 X7 => (if v8 = nI 0 then ldR σ 1 g 0 fun b12 => ldR σ 5 b12 2 fun b13 => (f_X2_leastFreeName σ X7 g).bind fun v15 => stA σ X7 10 b13 (nI c) v15 fun X16 => f_X2_partNames_2 σ g s N X16 (nI (c + 1)) else (if v8 = nI 1 then ldR σ 1 g 0 fun b9 => (f_X6_takeColumn σ X7 b9 (nI c)).bind fun X11 => f_X2_partNames_2 σ g s N X11 (nI (c + 1)) else f_X2_partNames_2 σ g s N X7 (nI (c + 1))))) else f_X2_partNames_2 σ g s N X (nI (c + 1))) else f_X2_partNames_2 σ g s N X (nI (c + 1)) := by
    rw [f_X2_partNames_2]
    obtain ⟨g0, g1, g2, g3, g4, g5, g6, gT, k5, l5, k6, l6, k7, l7, k8, l8, k9, l9⟩ := hg
    simp (disch := first | assumption | omega) only [litM, grd_t, grd_T, ldI_t, stI_t, ldA_t, stA_t, lenA_t, n_lt_t, n_lt_f, n_le_t, n_le_f, n_eq_t, n_eq_f, if_true, if_false, nI_add, nI_mul, bt_d, bI_z, bI_o, Option.bind_some, Bool.true_eq_false, Bool.false_eq_true, g0, g1, ldR_g hg', s_hasColumn gT, s_isNameAhead hg', inB_n, f_X2_partNames_74, t1, ifF]
    cases eb : bt (Y.1 m 20) c with
    | false => rfl
    | true =>
      have ea : anyB (fun j => bt (Y.1 m 20) j && decide (X.1 (g + 2) j = X.1 (g + 2) c)) c = anyB (fun j => bt (Y.1 m 20) j && decide (Y.1 (m + 5) j = Y.1 (m + 5) c)) c := anyB_congr (fun j hj => by
        cases ej : bt (Y.1 m 20) j with
        | false => rfl
        | true => rw [(t5 j (by omega) ej).1, (t5 c hc eb).1])
      rw [ea]
  have em : f_X10_mergesNames_2 τ m (nI b) (M + 1) Y (nI c) = if bt (Y.1 m 20) c = true then (if anyB (fun j => bt (Y.1 m 20) j && decide (Y.1 (m + 5) j = Y.1 (m + 5) c)) c = true then bnd2 (f_X10_comesUp τ Y m (nI b) (nI 3) (nI c) (nI 0) (-(nI 1)) (-(nI 1))) (fun v8 X7 => (if v8 = nI 1 then ldI τ X7 8 m 20 fun v9 => stI τ X7 8 m 20 (v9 &&& (((1 : Int32) <<< (nI c &&& 31)) ^^^ (-1))) fun X10 => f_X10_mergesNames_66 (f_X10_mergesNames_2 τ m (nI b) M) τ m (nI b) (nI c) v8 X10 else f_X10_mergesNames_66 (f_X10_mergesNames_2 τ m (nI b) M) τ m (nI b) (nI c) v8 X7)) else f_X10_mergesNames_2 τ m (nI b) M Y (nI (c + 1))) else f_X10_mergesNames_2 τ m (nI b) M Y (nI (c + 1)) := by
    rw [f_X10_mergesNames_2]
    obtain ⟨m0, m1, m2, m3, m4, m5, m6, m7, m8, m9, m10, m11, m12, m13, m14, m15, m16, m17, mq1, mq2, mq3, mq4, mq5, mq6, mq7, mq8, mq9, mq10, mq11, mq12, mq13, mq14, mq15, mq16, mq17, mn1, mn2, mn3, mn4, mn5, mn6, mn7, mn8, mn9, mn10, mn11, mn12, mn13, mn14, mn15, mn16, mn17⟩ := hm
    simp (disch := first | assumption | omega) only [litM, grd_t, grd_T, ldI_t, stI_t, ldA_t, stA_t, lenA_t, n_lt_t, n_lt_f, n_le_t, n_le_f, n_eq_t, n_eq_f, if_true, if_false, nI_add, nI_mul, bt_d, bI_z, bI_o, Option.bind_some, Bool.true_eq_false, Bool.false_eq_true, ldR, eq_self, if_true, Option.bind_some, m0, m5, s10_isNamed hm', f_X10_mergesNames_101, ifF]
  rw [ec, em]
  cases eb : bt (Y.1 m 20) c with
  | false =>
    rw [if_neg (by decide), if_neg (by decide)]
    exact ⟨X, Y, rfl, rfl, n, by omega, hmono, hk⟩
  | true =>
    rw [if_pos rfl, if_pos rfl]
    cases ea : anyB (fun j => bt (Y.1 m 20) j && decide (Y.1 (m + 5) j = Y.1 (m + 5) c)) c with
    | false =>
      rw [if_neg (by decide), if_neg (by decide)]
      exact ⟨X, Y, rfl, rfl, n, by omega, hmono, hk⟩
    | true =>
      rw [if_pos rfl, if_pos rfl]
      obtain ⟨X1, Y1, n1, q1, q2, q3, q4, q5⟩ := ask_rel (l := -(nI 1)) (r := -(nI 1)) hg hs hm hb (show okI (9 * 3 + c) from ⟨by omega, by omega⟩) (id_col 3 (by omega) c (by omega)) (fun q => by omega) (by omega) (hch.trans xC.symm) ((hS.2.2.2.2.2.2.2.2.2) _ (by omega)).1 h
      have q4 := q4.mono (Q := fun j => j < 27 + (c + 1)) (fun j _ q => by rcases q with q | q <;> omega)
      have hk1 : ∀ j, bt (Y1.1 m 21) j = false := fun j => by rw [q5.2.2.2.2 21 (by omega)]; exact hk j
      have h20 : Y1.1 m 20 = Y.1 m 20 := q5.2.2.2.2 20 (by omega)
      rw [q1, q2]
      simp only [bnd2, ldR_g hg', ldR_gn hg']
      obtain ⟨r1, r2, r3, r4, r5, r6, r7⟩ := q4.2.2.1
      by_cases v0 : X.1 (s + 16) (9 * 3 + c) = nI 0
      · rw [if_pos v0, v0]
        obtain ⟨q, hq, hp⟩ := free_name (Y1.1 m 20) (Y1.1 (m + 5))
        obtain ⟨q, hq, hp, hl⟩ := leastB (p := fun q => anyB (fun j => bt (Y1.1 m 20) j && decide (Y1.1 (m + 5) j = nI q)) 9) 10 ⟨q, hq, hp⟩
        have ef : f_X2_leastFreeName σ X1 g = some (nI q) := by
          unfold f_X2_leastFreeName
          rw [grd_t hg.1]
          have := find_loop (F := fun n k => f_X2_leastFreeName_4 σ X1 g n (nI k) (nI k)) (G := fun k => some (nI k)) (p := fun q => anyB (fun j => bt (Y1.1 m 20) j && decide (Y1.1 (m + 5) j = nI q)) 9) (N := 10) hq hp hl (by
            intro n k hk9
            show f_X2_leastFreeName_4 σ X1 g (n + 1) (nI k) (nI k) = _
            rw [f_X2_leastFreeName_4]
            obtain ⟨g0, g1, g2, g3, g4, g5, g6, gT, k5, l5, k6, l6, k7, l7, k8, l8, k9, l9⟩ := hg
            simp (disch := first | assumption | omega) only [litM, grd_t, grd_T, ldI_t, stI_t, ldA_t, stA_t, lenA_t, n_lt_t, n_lt_f, n_le_t, n_le_f, n_eq_t, n_eq_f, if_true, if_false, nI_add, nI_mul, bt_d, bI_z, bI_o, Option.bind_some, Bool.true_eq_false, Bool.false_eq_true, g0, ldR_g hg', s_hasName gT, r1, ifF]
            have e5 : anyB (fun j => bt (Y1.1 m 20) j && decide (X1.1 (g + 1 + 1) j = nI k)) 9 = anyB (fun j => bt (Y1.1 m 20) j && decide (Y1.1 (m + 5) j = nI k)) 9 := anyB_congr (fun j hj => by
              cases ej : bt (Y1.1 m 20) j with
              | false => rfl
              | true => rw [← (r5 j hj ej).1])
            rw [e5]) FU 0 (by omega) (by have : FU = 40000 := rfl; omega)
          exact this
        have eg : ∀ k2 : Mx → Int32 → Option Mx, f_X10_mergesNames_76 k2 τ m (nI b) (nI c) FU Y1 (nI 0) = k2 (sI Y1 (m + 5) c (nI q)) (nI (c + 1)) := by
          intro k2
          have := find_loop (F := fun n k => f_X10_mergesNames_76 k2 τ m (nI b) (nI c) n Y1 (nI k)) (G := fun k => k2 (sI Y1 (m + 5) c (nI k)) (nI (c + 1))) (p := fun q => anyB (fun j => bt (Y1.1 m 20) j && decide (Y1.1 (m + 5) j = nI q)) 9) (N := 10) hq hp hl (by
            intro n k hk9
            show f_X10_mergesNames_76 k2 τ m (nI b) (nI c) (n + 1) Y1 (nI k) = _
            rw [f_X10_mergesNames_76]
            obtain ⟨m0, m1, m2, m3, m4, m5, m6, m7, m8, m9, m10, m11, m12, m13, m14, m15, m16, m17, mq1, mq2, mq3, mq4, mq5, mq6, mq7, mq8, mq9, mq10, mq11, mq12, mq13, mq14, mq15, mq16, mq17, mn1, mn2, mn3, mn4, mn5, mn6, mn7, mn8, mn9, mn10, mn11, mn12, mn13, mn14, mn15, mn16, mn17⟩ := hm
            simp (disch := first | assumption | omega) only [litM, grd_t, grd_T, ldI_t, stI_t, ldA_t, stA_t, lenA_t, n_lt_t, n_lt_f, n_le_t, n_le_f, n_eq_t, n_eq_f, if_true, if_false, nI_add, nI_mul, bt_d, bI_z, bI_o, Option.bind_some, Bool.true_eq_false, Bool.false_eq_true, ldR, eq_self, if_true, Option.bind_some, m0, m5, s10_isNamed hm', f_X10_mergesNames_101, ifF]) FU 0 (by omega) (by have : FU = 40000 := rfl; omega)
          exact this
        refine ⟨sI X1 (g + 2) c (nI q), sI Y1 (m + 5) c (nI q), ?_, ?_, n1, by omega, q4.name, fun j => by rw [sI_na (by omega)]; exact hk1 j⟩
        · rw [ef]
          obtain ⟨g0, g1, g2, g3, g4, g5, g6, gT, k5, l5, k6, l6, k7, l7, k8, l8, k9, l9⟩ := hg
          obtain ⟨h1, h2, h3, h4, h5, h6, h7, h8, h9, h10⟩ := gT
          have h5 : shK σ (g + 2) = 10 := h5
          have h6 : shN σ (g + 2) = 9 := h6
          simp (disch := first | assumption | omega) only [litM, grd_t, grd_T, ldI_t, stI_t, ldA_t, stA_t, lenA_t, n_lt_t, n_lt_f, n_le_t, n_le_f, n_eq_t, n_eq_f, if_true, if_false, nI_add, nI_mul, bt_d, bI_z, bI_o, Option.bind_some, Bool.true_eq_false, Bool.false_eq_true]
        · simp (disch := first | assumption | omega) only [litM, grd_t, grd_T, ldI_t, stI_t, ldA_t, stA_t, lenA_t, n_lt_t, n_lt_f, n_le_t, n_le_f, n_eq_t, n_eq_f, if_true, if_false, nI_add, nI_mul, bt_d, bI_z, bI_o, Option.bind_some, Bool.true_eq_false, Bool.false_eq_true, f_X10_mergesNames_66]
          exact eg _
      · rw [if_neg v0]
        by_cases v1 : X.1 (s + 16) (9 * 3 + c) = nI 1
        · rw [if_pos v1, if_pos v1, v1]
          have hb1 : bt (X1.1 (g + 1) 0) c = true := by rw [r1, h20]; exact eb
          refine ⟨_, _, ?_, ?_, n1, by omega, q4.takeC hc, fun j => ?_⟩
          · rw [s_takeColumn hg.2.2.2.2.2.2.2.1 hc hb1]
            rfl
          · obtain ⟨m0, m1, m2, m3, m4, m5, m6, m7, m8, m9, m10, m11, m12, m13, m14, m15, m16, m17, mq1, mq2, mq3, mq4, mq5, mq6, mq7, mq8, mq9, mq10, mq11, mq12, mq13, mq14, mq15, mq16, mq17, mn1, mn2, mn3, mn4, mn5, mn6, mn7, mn8, mn9, mn10, mn11, mn12, mn13, mn14, mn15, mn16, mn17⟩ := hm
            simp (disch := first | assumption | omega) only [litM, grd_t, grd_T, ldI_t, stI_t, ldA_t, stA_t, lenA_t, n_lt_t, n_lt_f, n_le_t, n_le_f, n_eq_t, n_eq_f, if_true, if_false, nI_add, nI_mul, bt_d, bI_z, bI_o, Option.bind_some, Bool.true_eq_false, Bool.false_eq_true, f_X10_mergesNames_66, f_X10_mergesNames_101]
          · rw [sI_nk (by omega)]; exact hk1 j
        · rw [if_neg v1, if_neg v1]
          refine ⟨X1, Y1, rfl, ?_, n1, by omega, q4, hk1⟩
          unfold f_X10_mergesNames_66 f_X10_mergesNames_101
          simp only [litM, v0, if_false, nI_add]
theorem names_rel {σ τ : Sh} {n g m s L R b : Nat} {ch : Nat → Int32} {Lh Rh : Int32} {X0 X Y0 Y : Mx} (hg : mgOK σ g) (hs : stOK σ s L R) (hm : mdOK τ m) (hb : b ≤ 931) (hd : s + 16 < g ∨ g + 9 < s) (hS0 : StR X0.1 s L R (Y0.1 (m + 3)) b) (hch : ch = X0.1 (s + 16)) (h : MI 0 (fun j => j < 27) n ch Lh Rh X0 X g Y0 Y m) (hn : n ≤ 10) (hk : ∀ j, bt (Y.1 m 21) j = false) :
    ∃ X1 Y1 n1, f_X2_partNames σ X g s = some X1 ∧ f_X10_mergesNames τ Y m (nI b) = some Y1 ∧ n1 ≤ 19 ∧ MI 0 (fun j => j < 36) n1 ch Lh Rh X0 X1 g Y0 Y1 m ∧ (∀ j, bt (Y1.1 m 21) j = false) := by
  obtain ⟨N1, M1, X1, Y1, e1, e2, n1, i1, i2, i3⟩ := up_loop2 (fun n s' k => f_X2_partNames_2 σ g s n s' (nI k)) (fun n t k => f_X10_mergesNames_2 τ m (nI b) n t (nI k)) 9 (fun k x y => ∃ n1, n1 ≤ 10 + k ∧ MI 0 (fun j => j < 27 + k) n1 ch Lh Rh X0 x g Y0 y m ∧ (∀ j, bt (y.1 m 21) j = false)) (by
    intro N1 M1 k x y hk ⟨n1, i1, i2, i3⟩
    exact nam_rel hg hs hm hb hd hS0 hch hk i2 i1 i3) FU FU 0 X Y (by omega) ⟨n, hn, h, hk⟩ (by decide) (by decide)
  have e1 : f_X2_partNames_2 σ g s FU X 0 = f_X2_partNames_2 σ g s (N1 + 1) X1 (nI 9) := e1
  have e2 : f_X10_mergesNames_2 τ m (nI b) FU Y 0 = f_X10_mergesNames_2 τ m (nI b) (M1 + 1) Y1 (nI 9) := e2
  refine ⟨X1, Y1, n1, ?_, ?_, i1, i2, i3⟩
  · unfold f_X2_partNames
    rw [grd_t hg.1, e1, f_X2_partNames_2, if_pos (by decide)]
  · unfold f_X10_mergesNames
    rw [grd_t hm.1, e2, f_X10_mergesNames_2, if_pos (by decide)]
