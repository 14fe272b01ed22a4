def ren (w : Int32) : Int32 := ((w &&& nI 31) ||| (((w >>> (nI 5 &&& nI 31)) &&& nI 3) <<< (nI 7 &&& nI 31))) ||| (((w >>> (nI 7 &&& nI 31)) &&& nI 3) <<< (nI 5 &&& nI 31))
theorem ren_n : ∀ v, v < 512 → ∀ c, c < 32 → bt (ren (nI v)) c = (decide (c < 9) && bt (nI v) (flp c)) := by decide +kernel
theorem ren_bt {w : Int32} (h : low 9 w) (c : Nat) : bt (ren w) c = (decide (c < 9) && bt w (flp c)) := by
  obtain ⟨v, hv, rfl⟩ := low_n (by omega) h
  by_cases hc : c < 32
  · exact ren_n v hv c hc
  · rw [bt_hi (by omega), show decide (c < 9) = false from decide_eq_false (by omega), Bool.false_and]
theorem flp_lt {c : Nat} (h : c < 9) : flp c < 9 := by unfold flp; split <;> (try split) <;> (try split) <;> omega
theorem flp_flp {c : Nat} (h : c < 9) : flp (flp c) = c := by
  have : ∀ c, c < 9 → flp (flp c) = c := by decide
  exact this c h
theorem sw_flp : ∀ c, c < 9 → (if c = 7 + 0 then 5 else if c = 5 + 0 then 7 else if c = 7 + 1 then 6 else if c = 5 + 1 then 8 else c) = flp c := by decide
theorem c_renum {σ : Sh} {X : Mx} {t : Nat} (ht : tabOK σ t) (hl : low 9 (X.1 t 0)) : ∃ X1, f_X6_renumberAdded σ X t = some X1 ∧ FrX X X1 t (t + 3) ∧ X1.1 t 1 = X.1 t 1 ∧ X1.1 t 0 = ren (X.1 t 0) ∧ (∀ c, c < 9 → X1.1 (t + 1) c = X.1 (t + 1) (flp c)) ∧ (∀ c, c < 9 → X1.1 (t + 2) c = X.1 (t + 2) (flp c)) ∧ (∀ k c, k < 20 → c < 9 → X1.1 (t + 3) (9 * k + c) = X.1 (t + 3) (9 * k + flp c)) := by
  have ht' := ht
  obtain ⟨h1, h2, h3, h4, h5, h6, h7, h8, h9, h10⟩ := ht'
  obtain ⟨n, hn⟩ : ∃ n, FU = n + 1 + 1 + 1 := ⟨39997, FU_40000⟩
  have st : ∀ (n i : Nat) (Y : Mx), i < 2 → ∃ Y1, f_X6_renumberAdded_2 σ t (n + 1) Y (nI i) = f_X6_renumberAdded_2 σ t n Y1 (nI (i + 1)) ∧ FrX Y Y1 t (t + 3) ∧ Y1.1 t = Y.1 t ∧ (∀ c, c < 9 → Y1.1 (t + 1) c = Y.1 (t + 1) (if c = 5 + i then 7 + i else if c = 7 + i then 5 + i else c)) ∧ (∀ c, c < 9 → Y1.1 (t + 2) c = Y.1 (t + 2) (if c = 5 + i then 7 + i else if c = 7 + i then 5 + i else c)) ∧ (∀ k c, k < 20 → c < 9 → Y1.1 (t + 3) (9 * k + c) = Y.1 (t + 3) (9 * k + (if c = 5 + i then 7 + i else if c = 7 + i then 5 + i else c))) := by
    intro n i Y hi
    obtain ⟨Y1, e, w1, w2, w3⟩ := c_ren37 (X := swp (swp Y (t + 1) (5 + i) (7 + i)) (t + 2) (5 + i) (7 + i)) (k2 := f_X6_renumberAdded_2 σ t n) ht hi
    have sw : ∀ (Z : Mx) (b c : Nat), (swp Z b (5 + i) (7 + i)).1 b c = Z.1 b (if c = 5 + i then 7 + i else if c = 7 + i then 5 + i else c) := fun Z b c => by
      rw [swp_at]
      by_cases c5 : c = 5 + i
      · simp only [show (c = 7 + i) = False from eq_false (by omega), show (c = 5 + i) = True from eq_true c5, if_true, if_false]
      · by_cases c7 : c = 7 + i
        · simp only [show (c = 7 + i) = True from eq_true c7, show (c = 5 + i) = False from eq_false c5, if_true, if_false]
        · simp only [show (c = 7 + i) = False from eq_false c7, show (c = 5 + i) = False from eq_false c5, if_false]
    refine ⟨Y1, ?_, ⟨w1, fun q hq => ?_⟩, ?_, fun c hc => ?_, fun c hc => ?_, fun k c hk hc => ?_⟩
    · rw [f_X6_renumberAdded_2]
      simp only [litM]
      rw [if_neg (by rw [n_le (by omega) (by omega)]; omega)]
      simp only [ldR, h1, h2, h3, if_true, Option.bind_some]
      rw [nI_add, nI_add, s_swap h5 h6 (by omega) (by omega) (by omega), Option.bind_some, s_swap h7 h8 (by omega) (by omega) (by omega), Option.bind_some]
      exact e
    · rw [w2 q (by omega), swp_ne (by omega), swp_ne (by omega)]
    · rw [w2 t (by omega), swp_ne (by omega), swp_ne (by omega)]
    · rw [w2 _ (by omega), swp_ne (by omega), sw]
    · rw [w2 _ (by omega), sw, swp_ne (by omega)]
    · rw [w3 k c hk hc, swp_ne (by omega), swp_ne (by omega)]
  obtain ⟨Y1, e1, a1, a2, a3, a4, a5⟩ := st (n + 1 + 1) 0 X (by omega)
  obtain ⟨Y2, e2, b1, b2, b3, b4, b5⟩ := st (n + 1) 1 Y1 (by omega)
  have cf : ∀ c, c < 9 → (if c = 5 + 1 then 7 + 1 else if c = 7 + 1 then 5 + 1 else c) < 9 ∧ (if (if c = 5 + 1 then 7 + 1 else if c = 7 + 1 then 5 + 1 else c) = 5 + 0 then 7 + 0 else if (if c = 5 + 1 then 7 + 1 else if c = 7 + 1 then 5 + 1 else c) = 7 + 0 then 5 + 0 else (if c = 5 + 1 then 7 + 1 else if c = 7 + 1 then 5 + 1 else c)) = flp c := by decide
  refine ⟨sI Y2 t 0 (ren (X.1 t 0)), ?_, ⟨by rw [sI_2, b1.1, a1.1], fun q hq => by rw [sI_ne (by omega), b1.2 q hq, a1.2 q hq]⟩, by rw [sI_nk (by omega), b2, a2], sI_eq, fun c hc => ?_, fun c hc => ?_, fun k c hk hc => ?_⟩
  · unfold f_X6_renumberAdded
    rw [grd_t h1, hn]
    refine Eq.trans e1 (Eq.trans e2 ?_)
    rw [f_X6_renumberAdded_2]
    simp only [litM]
    rw [if_pos (by rw [n_le (by omega) (by omega)]; omega), ldI_t h1, ldI_t h1, ldI_t h1, stI_t h1, b2, a2]
    rfl
  · rw [sI_na (by omega), b3 c hc, a3 _ (cf c hc).1, (cf c hc).2]
  · rw [sI_na (by omega), b4 c hc, a4 _ (cf c hc).1, (cf c hc).2]
  · rw [sI_na (by omega), b5 k c hk hc, a5 k _ hk (cf c hc).1, (cf c hc).2]
