/-! ===== alone: some of the cells left ===== -/
def TrC (Xs : Mx) (q tt p : Nat) (v : Nat → Nat) (X : Mx) : Prop := X.2 = Xs.2 ∧ (∀ r, r ≠ tt + 3 → (r < q + 18 ∨ q + 27 < r) → X.1 r = Xs.1 r) ∧ (∀ j, j < 180 → (∀ i, i < p → v i ≠ j) → X.1 (tt + 3) j = Xs.1 (tt + 3) j)
def LvI (Xs Ys : Mx) (q m tt t p : Nat) (v : Nat → Nat) (i : Nat) (X Y : Mx) : Prop := TrC Xs q tt p v X ∧ Y.2 = Ys.2 ∧ (∀ r, r ≠ m + 3 → Y.1 r = Ys.1 r) ∧ (∀ j, (j < 951 + 200 * t ∨ 1131 + 200 * t ≤ j) → Y.1 (m + 3) j = Ys.1 (m + 3) j) ∧ (∀ j, j < 180 → (∀ i', i' < i → v i' ≠ j) → Y.1 (m + 3) (951 + 200 * t + j) = Ys.1 (m + 3) (951 + 200 * t + j)) ∧ (∀ i', i' < i → X.1 (tt + 3) (v i') = Y.1 (m + 3) (951 + 200 * t + v i'))
/-- a picked cell set by both -/
theorem LvI.put {Xs Ys X Y : Mx} {q m tt t p i : Nat} {v : Nat → Nat} {z : Int32} (h : LvI Xs Ys q m tt t p v i X Y) (hi : i < p) (hv : ∀ i, i < p → v i < 180) (hinc : ∀ i j, i < j → j < p → v i < v j) (ht : t < 2) : LvI Xs Ys q m tt t p v (i + 1) (sI X (tt + 3) (v i) z) (sI Y (m + 3) (951 + 200 * t + v i) z) := by
  obtain ⟨⟨h1, h2, h3⟩, h4, h5, h6, h7, h8⟩ := h
  have vi := hv i hi
  refine ⟨⟨h1, fun r r1 r2 => by rw [sI_ne r1]; exact h2 r r1 r2, fun j hj hn => by rw [sI_nk (fun e => hn i hi e.symm)]; exact h3 j hj hn⟩, h4, fun r hr => by rw [sI_ne hr]; exact h5 r hr, fun j hj => by rw [sI_nk (by omega)]; exact h6 j hj, fun j hj hn => ?_, fun i' hi' => ?_⟩
  · have := hn i (by omega)
    rw [sI_nk (by omega)]
    exact h7 j hj (fun i' hi' => hn i' (by omega))
  · by_cases e : i' = i
    · rw [e, sI_eq, sI_eq]
    · have := hinc i' i (by omega) hi
      rw [sI_nk (by omega), sI_nk (by omega)]
      exact h8 i' (by omega)
/-- a picked cell left: the class writes it anew, the reference has it -/
theorem LvI.left {Xs Ys X Y : Mx} {q m tt t p i : Nat} {v : Nat → Nat} {z : Int32} (h : LvI Xs Ys q m tt t p v i X Y) (hi : i < p) (hv : ∀ i, i < p → v i < 180) (hinc : ∀ i j, i < j → j < p → v i < v j) (ht : t < 2) (hz : Ys.1 (m + 3) (951 + 200 * t + v i) = z) : LvI Xs Ys q m tt t p v (i + 1) (sI X (tt + 3) (v i) z) Y := by
  have e : sI Y (m + 3) (951 + 200 * t + v i) z = Y := by
    rw [← hz, ← h.2.2.2.2.1 (v i) (hv i hi) (fun i' hi' => by have := hinc i' i hi' hi; omega)]
    exact sI_self
  have := h.put (z := z) hi hv hinc ht
  rw [e] at this
  exact this
theorem s_baseCast {σ : Sh} {X : Mx} {s L R t k c : Nat} (hs : stOK σ s L R) (ht : t < 2) (hk : k < 20) (hc : c < 9) (hb : bt (X.1 (sd t L R) 0) c = true) : f_X5_baseCast σ X s (nI t) (nI k) (nI c) = some (f_X8_cast (X.1 (s + 1 + 3) (9 * k + c)) (X.1 (sd t L R + 2) c)) := by
  have hO := sd_ok hs t
  have hB : tabOK σ (s + 1) := hs.2.2.2.2.2.2.2.2.1
  unfold f_X5_baseCast
  simp only [litM]
  rw [grd_t hs.1, s_sideOf hs ht, Option.bind_some]
  simp only [ldR, hs.1, hs.2.1, if_true, Option.bind_some]
  rw [s_numberAt hB hk hc, Option.bind_some, s_hasColumn hO, Option.bind_some, inB_n hc (by omega), hb, if_neg (by decide)]
  obtain ⟨h1, h2, h3, h4, h5, h6, h7, h8, h9, h10⟩ := hO
  simp only [h1, h3, if_true, Option.bind_some]
  rw [ldA_t h7 (by omega) (by omega)]
theorem leave_step {σ τ : Sh} {Xs Ys X Y : Mx} {q s L R m t p i b n n' : Nat} {w x4 x5 : Int32} {v : Nat → Nat} {k39 : Mx → Int32 → Int32 → Int32 → Option (Int32 × Mx)} (hq : quOK σ q) (hs : stOK σ s L R) (hm : mdOK τ m) (hsq : s + 16 < q) (ht : t < 2) (hp : p ≤ 10) (hi : i < p) (h5 : Xs.1 q 5 = nI p) (hS : StR Xs.1 s L R (Ys.1 (m + 3)) 0) (hcp : ∀ j, j < 931 → Ys.1 (m + 3) (931 + j) = Ys.1 (m + 3) j) (hv : ∀ i, i < p → v i < 180 ∧ Xs.1 (q + 30) i = nI (v i) ∧ Ys.1 (m + 13) i = nI (v i) ∧ bt (Xs.1 (sd t L R) 1) (v i / 9) = true ∧ bt (Xs.1 (sd t L R) 0) (v i % 9) = true) (hinc : ∀ i j, i < j → j < p → v i < v j) (h : LvI Xs Ys q m (sd t (q + 1 + 5) (q + 1 + 9)) t p v i X Y) :
    ∃ X1 Y1, f_X3_leavePicked_20 σ q s (nI t) (nI b) (sd t L R) (sd t (q + 1 + 5) (q + 1 + 9)) (n + 1) X (nI i) = f_X3_leavePicked_20 σ q s (nI t) (nI b) (sd t L R) (sd t (q + 1 + 5) (q + 1 + 9)) n X1 (nI (i + 1)) ∧ f_X10_alone_54 k39 τ m (nI t) w (nI p) x4 x5 (nI b) (n' + 1) Y (nI i) = f_X10_alone_54 k39 τ m (nI t) w (nI p) x4 x5 (nI b) n' Y1 (nI (i + 1)) ∧ LvI Xs Ys q m (sd t (q + 1 + 5) (q + 1 + 9)) t p v (i + 1) X1 Y1 := by
  have hsd := sd_in hs t
  obtain ⟨q0, q1, q2, q3, q4, q5, qs, qg, k28, n28, k29, n29, k30, n30⟩ := hq
  have htt := sd_in qs t
  have hO := sd_ok hs t
  have hQ := sd_ok qs t
  have hmm := id hm
  obtain ⟨m0, m1, m2, m3, m4, m5, m6, m7, m8, m9, m10, m11, m12, m13, m14, m15, m16, m17, mq1, mq2, mq3, mq4, mq5, mq6, mq7, mq8, mq9, mq10, mq11, mq12, mq13, mq14, mq15, mq16, mq17, mn1, mn2, mn3, mn4, mn5, mn6, mn7, mn8, mn9, mn10, mn11, mn12, mn13, mn14, mn15, mn16, mn17⟩ := hm
  obtain ⟨⟨a1, a2, a3⟩, a4, a5, a6, a7, a8⟩ := id h
  obtain ⟨v1, v2, v3, v4, v5⟩ := hv i hi
  have hT := hS.tab ht
  have hk : v i / 9 < 20 := by omega
  have hc : v i % 9 < 9 := by omega
  have e9 : 9 * (v i / 9) + v i % 9 = v i := by omega
  have xr : ∀ r, r < q → X.1 r = Xs.1 r := fun r hr => a2 r (by omega) (by omega)
  have hb0 : bt (X.1 (sd t L R) 0) (v i % 9) = true := by rw [xr _ (by omega)]; exact v5
  obtain ⟨b0, b1, b2, b3, b4, b5, b6⟩ := id hT
  have cl : f_X3_leavePicked_20 σ q s (nI t) (nI b) (sd t L R) (sd t (q + 1 + 5) (q + 1 + 9)) (n + 1) X (nI i) = f_X3_leavePicked_20 σ q s (nI t) (nI b) (sd t L R) (sd t (q + 1 + 5) (q + 1 + 9)) n (sI X (sd t (q + 1 + 5) (q + 1 + 9) + 3) (v i) (if bt (nI b) i = true then Xs.1 (sd t L R + 3) (v i) else f_X8_cast (Xs.1 (s + 1 + 3) (v i)) (Xs.1 (sd t L R + 2) (v i % 9)))) (nI (i + 1)) := by
    rw [f_X3_leavePicked_20]
    unfold f_X3_leavePicked_74 f_X3_leavePicked_108
    simp only [litM]
    rw [ldI_t q0, a2 q (by omega) (by omega), h5, if_neg (by rw [n_le (by omega) (by omega)]; omega), if_neg (by rw [n_le (by omega) (by omega)]; omega)]
    simp only [ldR, q0, q5, if_true, Option.bind_some]
    rw [ldA_t k30 (by omega) (by omega), ldA_t k30 (by omega) (by omega), a2 (q + 30) (by omega) (by omega), v2, mod_n (by omega) (by omega), div_n (by omega) (by omega), bt_d (by omega)]
    rw [s_baseCast hs ht hk hc hb0, Option.bind_some, s_numberAt hO hk hc, Option.bind_some, s_putNumber hQ hk hc, s_putNumber hQ hk hc, Option.bind_some, Option.bind_some, e9, nI_add, xr (s + 1 + 3) (by omega), xr (sd t L R + 2) (by omega), xr (sd t L R + 3) (by omega)]
    cases bt (nI b) i with
    | false => rfl
    | true => rfl
  have md : f_X10_alone_54 k39 τ m (nI t) w (nI p) x4 x5 (nI b) (n' + 1) Y (nI i) = (if bt (nI b) i = true then f_X10_alone_54 k39 τ m (nI t) w (nI p) x4 x5 (nI b) n' Y (nI (i + 1)) else f_X10_alone_54 k39 τ m (nI t) w (nI p) x4 x5 (nI b) n' (sI Y (m + 3) (951 + 200 * t + v i) (f_X8_cast (Xs.1 (s + 1 + 3) (v i)) (Xs.1 (sd t L R + 2) (v i % 9)))) (nI (i + 1))) := by
    obtain ⟨-, c2, tq, htq, c3⟩ := b4 (v i % 9) hc v5
    have ty : Y.1 (m + 3) (0 + 200 * t + 11 + v i % 9) = nI tq := by
      rw [a6 _ (by omega), ← c3]; exact c2.symm
    have bs : rBase (Y.1 (m + 3)) 0 (v i / 9) (v i % 9) = Xs.1 (s + 1 + 3) (v i) := by
      have := base_rel (b := 0) hS.2.2.1 hk hc
      rw [e9] at this
      rw [← this]
      unfold rBase
      rw [a6 _ (by omega), a6 _ (by omega), a6 _ (by omega)]
    rw [f_X10_alone_54]
    unfold f_X10_alone_130
    simp only [litM]
    rw [if_neg (by rw [n_le (by omega) (by omega)]; omega)]
    simp only [ldR, m0, m3, m13, if_true, Option.bind_some]
    rw [ldA_t mq13 (by omega) (by omega), ldA_t mq13 (by omega) (by omega), a5 (m + 13) (by omega), v3, mod_n (by omega) (by omega), div_n (by omega) (by omega), bt_d (by omega), s10_typeAt hmm (by omega) (by omega) hc, Option.bind_some, s10_baseCell hmm (by omega) hk hc, Option.bind_some, ty, bs, cast_eq _ htq, s10_cellAt, show 931 + 200 * t + 20 + 9 * (v i / 9) + v i % 9 = 951 + 200 * t + v i by omega, stA_t mq3 (by omega) (by omega), nI_add, c3]
    cases bt (nI b) i with
    | false => rfl
    | true => rfl
  cases eb : bt (nI b) i with
  | true =>
    rw [eb, if_pos rfl] at cl md
    refine ⟨sI X (sd t (q + 1 + 5) (q + 1 + 9) + 3) (v i) (Xs.1 (sd t L R + 3) (v i)), Y, cl, md, h.left hi (fun i hi => (hv i hi).1) hinc ht ?_⟩
    rw [show 951 + 200 * t + v i = 931 + (20 + 200 * t + v i) by omega, hcp _ (by omega)]
    have := b5 (v i / 9) (v i % 9) hk hc v4 v5
    rw [e9] at this
    rw [this]
    exact congrArg (Ys.1 (m + 3)) (by omega)
  | false =>
    rw [eb, if_neg (by decide)] at cl md
    exact ⟨_, _, cl, md, h.put hi (fun i hi => (hv i hi).1) hinc ht⟩
