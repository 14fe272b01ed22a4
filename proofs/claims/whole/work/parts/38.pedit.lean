/-! ===== edits, in both ===== -/
/-- some places of an array changed in order -/
theorem upd_loop {ρ : Type} {F : Nat → Mx → Nat → Option ρ} {Y : Mx} {a N : Nat} {idx : Nat → Nat} {p : Nat → Bool} {g : Nat → Int32 → Int32} (inj : ∀ i j, i < N → j < N → idx i = idx j → i = j)
    (step : ∀ n s k, k < N → s.2 = Y.2 → (∀ q, q ≠ a → s.1 q = Y.1 q) → (∀ j, (∀ i, i < k → j ≠ idx i) → s.1 a j = Y.1 a j) → F (n + 1) s k = F n (if p k = true then sI s a (idx k) (g k (s.1 a (idx k))) else s) (k + 1)) (hN : N < FU) :
    ∃ n Z, F FU Y 0 = F (n + 1) Z N ∧ Z.2 = Y.2 ∧ (∀ q, q ≠ a → Z.1 q = Y.1 q) ∧ (∀ i, i < N → Z.1 a (idx i) = if p i = true then g i (Y.1 a (idx i)) else Y.1 a (idx i)) ∧ (∀ j, (∀ i, i < N → j ≠ idx i) → Z.1 a j = Y.1 a j) := by
  obtain ⟨n, s, e, i1, i2, i3, i4⟩ := up_loop F N (fun k s => s.2 = Y.2 ∧ (∀ q, q ≠ a → s.1 q = Y.1 q) ∧ (∀ i, i < k → s.1 a (idx i) = if p i = true then g i (Y.1 a (idx i)) else Y.1 a (idx i)) ∧ (∀ j, (∀ i, i < k → j ≠ idx i) → s.1 a j = Y.1 a j)) (by
    intro n k s hk ⟨i1, i2, i3, i4⟩
    refine ⟨_, step n s k hk i1 i2 i4, ?_⟩
    have hold : s.1 a (idx k) = Y.1 a (idx k) := i4 _ (fun i hi e => by have := inj k i hk (by omega) e; omega)
    cases hp : p k with
    | false =>
      rw [if_neg (by decide)]
      refine ⟨i1, i2, fun i hi => ?_, fun j hj => i4 j (fun i hi => hj i (by omega))⟩
      by_cases e : i = k
      · subst e; rw [hp, if_neg (by decide)]; exact hold
      · exact i3 i (by omega)
    | true =>
      rw [if_pos rfl]
      refine ⟨i1, fun q hq => ?_, fun i hi => ?_, fun j hj => ?_⟩
      · rw [sI_ne hq]; exact i2 q hq
      · by_cases e : i = k
        · subst e; rw [sI_eq, hold, hp, if_pos rfl]
        · rw [sI_nk (fun h => e (inj i k (by omega) hk h))]; exact i3 i (by omega)
      · rw [sI_nk (hj k (by omega))]; exact i4 j (fun i hi => hj i (by omega))) FU 0 Y (by omega) ⟨rfl, fun _ _ => rfl, fun i hi => by omega, fun _ _ => rfl⟩ (by omega)
  exact ⟨n, s, e, i1, i2, i3, i4⟩
def FrW (Y Y1 : Mx) (m b : Nat) : Prop := Y1.2 = Y.2 ∧ (∀ q, q ≠ m + 3 → Y1.1 q = Y.1 q) ∧ (∀ j, (j < b ∨ b + 931 ≤ j) → Y1.1 (m + 3) j = Y.1 (m + 3) j)
theorem FrW.refl {Y : Mx} {m b : Nat} : FrW Y Y m b := ⟨rfl, fun _ _ => rfl, fun _ _ => rfl⟩
theorem FrW.trans {X Y Z : Mx} {m b : Nat} (h : FrW X Y m b) (k : FrW Y Z m b) : FrW X Z m b := ⟨k.1.trans h.1, fun q hq => (k.2.1 q hq).trans (h.2.1 q hq), fun j hj => (k.2.2 j hj).trans (h.2.2 j hj)⟩
/-- what an edit leaves -/
def ER (ok : Bool) (s L R m b : Nat) (X X1 Y Y1 : Mx) : Prop := StR X1.1 s L R (Y1.1 (m + 3)) b ∧ FrX X X1 s (s + 16) ∧ FrW Y Y1 m b ∧ (ok = false → X1 = X ∧ Y1 = Y)
theorem ER.no {s L R m b : Nat} {X Y : Mx} (h : StR X.1 s L R (Y.1 (m + 3)) b) : ER false s L R m b X X Y Y := ⟨h, FrX.refl, FrW.refl, fun _ => ⟨rfl, rfl⟩⟩
theorem sd_in {σ : Sh} {s L R : Nat} (hs : stOK σ s L R) (t : Nat) : s + 5 ≤ sd t L R ∧ sd t L R ≤ s + 9 := by
  have := hs.lr
  unfold sd; split <;> omega
theorem StR.tab {X : Nat → Nat → Int32} {s L R b t : Nat} {W : Nat → Int32} (h : StR X s L R W b) (ht : t < 2) : TabR X (sd t L R) W (b + 200 * t) := by
  rcases (show t = 0 ∨ t = 1 by omega) with rfl | rfl
  · exact h.1
  · exact h.2.1
theorem holds_01 (t v : Int32) : f_X8_holds t v = nI 0 ∨ f_X8_holds t v = nI 1 := by
  unfold f_X8_holds
  repeat' split
  all_goals first | exact Or.inl rfl | exact Or.inr rfl
theorem ed_set {σ τ : Sh} {X Y : Mx} {s L R m b t : Nat} {x y z : Int32} (hs : stOK σ s L R) (hm : mdOK τ m) (hb : b ≤ 931) (ht : t < 2) (hS : StR X.1 s L R (Y.1 (m + 3)) b) :
    ∃ ok X1 Y1, f_X5_setNumber σ X s (sd t L R) x y z = some (bI ok, X1) ∧ f_X10_sets τ Y m (nI b) (nI t) x y z = some (bI ok, Y1) ∧ ER ok s L R m b X X1 Y Y1 := by
  have hT := hS.tab ht
  have hO := sd_ok hs t
  have hi := sd_in hs t
  obtain ⟨b0, b1, b2, b3, b4, b5, b6⟩ := id hT
  unfold f_X5_setNumber f_X10_sets
  rw [grd_t hs.1, grd_t hm.1, s_hasCell hO, s10_hasRow hm hb (by omega), s10_hasColumn hm hb (by omega), ← b0, ← b1]
  cases e1 : inB 20 (X.1 (sd t L R) 1) x with
  | false => exact ⟨false, X, Y, rfl, rfl, ER.no hS⟩
  | true =>
    cases e2 : inB 9 (X.1 (sd t L R) 0) y with
    | false => exact ⟨false, X, Y, rfl, rfl, ER.no hS⟩
    | true =>
      obtain ⟨k, hk, rfl, bk⟩ := inB_ex (by omega) e1
      obtain ⟨c, hc, rfl, bc⟩ := inB_ex (by omega) e2
      obtain ⟨-, c2, q, hq, c3⟩ := b4 c hc bc
      have ec := b5 k c hk hc bk bc
      have hm' := hm
      have hO' := hO
      have et : f_X10_typeAt τ Y m (nI b) (nI t) (nI c) = some (nI q) := by rw [s10_typeAt hm hb (by omega) hc, ← c2, c3]
      obtain ⟨h1, h2, h3, h4, h5, h6, h7, h8, h9, h10⟩ := hO
      obtain ⟨m0, m1, m2, m3, m4, m5, m6, m7, m8, m9, m10, m11, m12, m13, m14, m15, m16, m17, mq1, mq2, mq3, mq4, mq5, mq6, mq7, mq8, mq9, mq10, mq11, mq12, mq13, mq14, mq15, mq16, mq17, mn1, mn2, mn3, mn4, mn5, mn6, mn7, mn8, mn9, mn10, mn11, mn12, mn13, mn14, mn15, mn16, mn17⟩ := hm
      simp (disch := first | assumption | omega) only [litM, grd_t, grd_T, ldI_t, stI_t, ldA_t, stA_t, lenA_t, n_lt_t, n_lt_f, n_le_t, n_le_f, n_eq_t, n_eq_f, if_true, if_false, nI_add, nI_mul, bt_d, bI_z, bI_o, Option.bind_some, Bool.true_eq_false, Bool.false_eq_true, ldR, eq_self, if_true, Option.bind_some, h1, h3, m0, m3, Bool.and_self, bI_t, s_numberAt hO', s_putNumber hO', et, c3, holds_eq _ hq, s10_cellAt, ← ec]
      by_cases ev : X.1 (sd t L R + 3) (9 * k + c) = z
      · refine ⟨false, X, Y, ?_, ?_, ER.no hS⟩
        · simp only [ev, if_true]; rfl
        · rcases holds_01 (nI q) z with eh | eh
          · simp only [eh, if_true]; rfl
          · simp (disch := first | assumption | omega) only [eh, ev, litM, grd_t, grd_T, ldI_t, stI_t, ldA_t, stA_t, lenA_t, n_lt_t, n_lt_f, n_le_t, n_le_f, n_eq_t, n_eq_f, if_true, if_false, nI_add, nI_mul, bt_d, bI_z, bI_o, Option.bind_some, Bool.true_eq_false, Bool.false_eq_true, ldR, eq_self, if_true, Option.bind_some]; rfl
      · rcases holds_01 (nI q) z with eh | eh
        · exact ⟨false, X, Y, by simp only [ev, eh, if_true, if_false]; rfl, by simp only [eh, if_true]; rfl, ER.no hS⟩
        · refine ⟨true, sI X (sd t L R + 3) (9 * k + c) z, sI Y (m + 3) (b + 200 * t + 20 + 9 * k + c) z, ?_, ?_, hS.own hs.lr ht (fun q h1 h2 h3 => sI_ne (by omega)) (fun j h1 h2 => sI_nk (by omega)) (hT.set hk hc bk bc (sI_ne (by omega)) (sI_ne (by omega)) (sI_ne (by omega)) (fun j => sI_get) (fun j => sI_get)) (fun c h => by rw [sI_na (by omega)]; exact h), ⟨rfl, fun q hq => sI_ne (by omega)⟩, ⟨rfl, fun q hq => sI_ne hq, fun j hj => sI_nk (by omega)⟩, fun h => by cases h⟩
          · simp (disch := first | assumption | omega) only [eh, ev, litM, grd_t, grd_T, ldI_t, stI_t, ldA_t, stA_t, lenA_t, n_lt_t, n_lt_f, n_le_t, n_le_f, n_eq_t, n_eq_f, if_true, if_false, nI_add, nI_mul, bt_d, bI_z, bI_o, Option.bind_some, Bool.true_eq_false, Bool.false_eq_true]; rfl
          · simp (disch := first | assumption | omega) only [eh, ev, litM, grd_t, grd_T, ldI_t, stI_t, ldA_t, stA_t, lenA_t, n_lt_t, n_lt_f, n_le_t, n_le_f, n_eq_t, n_eq_f, if_true, if_false, nI_add, nI_mul, bt_d, bI_z, bI_o, Option.bind_some, Bool.true_eq_false, Bool.false_eq_true]; rfl
theorem ed_delete {σ τ : Sh} {X Y : Mx} {s L R m b t : Nat} {x y z : Int32} (hs : stOK σ s L R) (hm : mdOK τ m) (hb : b ≤ 931) (ht : t < 2) (hS : StR X.1 s L R (Y.1 (m + 3)) b) :
    ∃ ok X1 Y1, f_X5_deleteRow σ X s (sd t L R) x = some (bI ok, X1) ∧ f_X10_does τ Y m (nI b) (nI t) (nI 13) x y z = some (bI ok, Y1) ∧ ER ok s L R m b X X1 Y Y1 := by
  have hT := hS.tab ht
  have hO := sd_ok hs t
  have hi := sd_in hs t
  obtain ⟨b0, b1, b2, b3, b4, b5, b6⟩ := id hT
  have hr : f_X10_hasRow τ Y m (nI b) (nI t) x = some (bI (inB 20 (X.1 (sd t L R) 1) x)) := by rw [s10_hasRow hm hb (by omega), ← b1]
  have hm' := hm
  unfold f_X5_deleteRow f_X10_does
  rw [grd_t hs.1, grd_t hm.1, s_hasRow hO]
  obtain ⟨m0, m1, m2, m3, m4, m5, m6, m7, m8, m9, m10, m11, m12, m13, m14, m15, m16, m17, mq1, mq2, mq3, mq4, mq5, mq6, mq7, mq8, mq9, mq10, mq11, mq12, mq13, mq14, mq15, mq16, mq17, mn1, mn2, mn3, mn4, mn5, mn6, mn7, mn8, mn9, mn10, mn11, mn12, mn13, mn14, mn15, mn16, mn17⟩ := hm
  simp (disch := first | assumption | omega) only [litM, grd_t, grd_T, ldI_t, stI_t, ldA_t, stA_t, lenA_t, n_lt_t, n_lt_f, n_le_t, n_le_f, n_eq_t, n_eq_f, if_true, if_false, nI_add, nI_mul, bt_d, bI_z, bI_o, Option.bind_some, Bool.true_eq_false, Bool.false_eq_true, ldR, eq_self, if_true, Option.bind_some, m0, m3, hr]
  cases e1 : inB 20 (X.1 (sd t L R) 1) x with
  | false => exact ⟨false, X, Y, rfl, rfl, ER.no hS⟩
  | true =>
    obtain ⟨k, hk, rfl, bk⟩ := inB_ex (by omega) e1
    refine ⟨true, sI (wF X (sd t L R + 3) (fun j => if 9 * k ≤ j ∧ j < 9 * k + 9 then nI 9999 else X.1 (sd t L R + 3) j)) (sd t L R) 1 (X.1 (sd t L R) 1 &&& (((1 : Int32) <<< (nI k &&& 31)) ^^^ (-1))), sI Y (m + 3) (b + 200 * t + 1) (Y.1 (m + 3) (b + 200 * t + 1) &&& (((1 : Int32) <<< (nI k &&& 31)) ^^^ (-1))), by rw [s_takeRow hO hk bk]; rfl, ?_, hS.own hs.lr ht (fun q h1 h2 h3 => by rw [sI_ne (by omega), wF_fn (by omega)]) (fun j h1 h2 => sI_nk (by omega)) (hT.delete hk (by rw [sI_nk (by omega), wF_na (by omega)]) sI_eq (by rw [sI_ne (by omega), wF_fn (by omega)]) (by rw [sI_ne (by omega), wF_fn (by omega)]) (fun j => by rw [sI_na (by omega), wF_at]) (fun j => sI_get)) (fun c h => by rw [sI_nk (by omega), wF_na (by omega)]; exact h), ⟨rfl, fun q hq => by rw [sI_ne (by omega), wF_fn (by omega)]⟩, ⟨rfl, fun q hq => sI_ne hq, fun j hj => sI_nk (by omega)⟩, fun h => by cases h⟩
    simp only [Bool.true_eq_false, if_false]; rfl
theorem ed_drop {σ τ : Sh} {X Y : Mx} {s L R m b t : Nat} {x y z : Int32} (hs : stOK σ s L R) (hm : mdOK τ m) (hb : b ≤ 931) (ht : t < 2) (hS : StR X.1 s L R (Y.1 (m + 3)) b) :
    ∃ ok X1 Y1, f_X5_dropColumn σ X s (sd t L R) x = some (bI ok, X1) ∧ f_X10_does τ Y m (nI b) (nI t) (nI 17) x y z = some (bI ok, Y1) ∧ ER ok s L R m b X X1 Y Y1 := by
  have hT := hS.tab ht
  have hO := sd_ok hs t
  have hi := sd_in hs t
  obtain ⟨b0, b1, b2, b3, b4, b5, b6⟩ := id hT
  have hr : f_X10_hasColumn τ Y m (nI b) (nI t) x = some (bI (inB 9 (X.1 (sd t L R) 0) x)) := by rw [s10_hasColumn hm hb (by omega), ← b0]
  have hm' := hm
  unfold f_X5_dropColumn f_X10_does
  rw [grd_t hs.1, grd_t hm.1, s_hasColumn hO]
  obtain ⟨m0, m1, m2, m3, m4, m5, m6, m7, m8, m9, m10, m11, m12, m13, m14, m15, m16, m17, mq1, mq2, mq3, mq4, mq5, mq6, mq7, mq8, mq9, mq10, mq11, mq12, mq13, mq14, mq15, mq16, mq17, mn1, mn2, mn3, mn4, mn5, mn6, mn7, mn8, mn9, mn10, mn11, mn12, mn13, mn14, mn15, mn16, mn17⟩ := hm
  simp (disch := first | assumption | omega) only [litM, grd_t, grd_T, ldI_t, stI_t, ldA_t, stA_t, lenA_t, n_lt_t, n_lt_f, n_le_t, n_le_f, n_eq_t, n_eq_f, if_true, if_false, nI_add, nI_mul, bt_d, bI_z, bI_o, Option.bind_some, Bool.true_eq_false, Bool.false_eq_true, ldR, eq_self, if_true, Option.bind_some, m0, m3, hr, Nat.add_zero]
  cases e1 : inB 9 (X.1 (sd t L R) 0) x with
  | false => exact ⟨false, X, Y, rfl, rfl, ER.no hS⟩
  | true =>
    obtain ⟨k, hk, rfl, bk⟩ := inB_ex (by omega) e1
    refine ⟨true, sI (wF X (sd t L R + 3) (fun j => if j % 9 = k ∧ j < 180 then nI 9999 else X.1 (sd t L R + 3) j)) (sd t L R) 0 (X.1 (sd t L R) 0 &&& (((1 : Int32) <<< (nI k &&& 31)) ^^^ (-1))), sI Y (m + 3) (b + 200 * t) (Y.1 (m + 3) (b + 200 * t) &&& (((1 : Int32) <<< (nI k &&& 31)) ^^^ (-1))), by rw [s_takeColumn hO hk bk]; rfl, ?_, hS.own hs.lr ht (fun q h1 h2 h3 => by rw [sI_ne (by omega), wF_fn (by omega)]) (fun j h1 h2 => sI_nk (by omega)) (hT.drop hk sI_eq (by rw [sI_nk (by omega), wF_na (by omega)]) (by rw [sI_ne (by omega), wF_fn (by omega)]) (by rw [sI_ne (by omega), wF_fn (by omega)]) (fun j => by rw [sI_na (by omega), wF_at]) (fun j => sI_get)) (fun c h => by rw [sI_eq, bt_clr (by omega), h]; rfl), ⟨rfl, fun q hq => by rw [sI_ne (by omega), wF_fn (by omega)]⟩, ⟨rfl, fun q hq => sI_ne hq, fun j hj => sI_nk (by omega)⟩, fun h => by cases h⟩
    simp only [Bool.true_eq_false, if_false]; rfl
theorem ed_rename {σ τ : Sh} {X Y : Mx} {s L R m b t : Nat} {x y : Int32} (hs : stOK σ s L R) (hm : mdOK τ m) (hb : b ≤ 931) (ht : t < 2) (hS : StR X.1 s L R (Y.1 (m + 3)) b) :
    ∃ ok X1 Y1, f_X5_renameColumn σ X s (sd t L R) x y = some (bI ok, X1) ∧ f_X10_renames τ Y m (nI b) (nI t) x y = some (bI ok, Y1) ∧ ER ok s L R m b X X1 Y Y1 := by
  have hT := hS.tab ht
  have hO := sd_ok hs t
  have hi := sd_in hs t
  obtain ⟨b0, b1, b2, b3, b4, b5, b6⟩ := id hT
  have hr : f_X10_hasColumn τ Y m (nI b) (nI t) x = some (bI (inB 9 (X.1 (sd t L R) 0) x)) := by rw [s10_hasColumn hm hb (by omega), ← b0]
  have hn : f_X10_hasName τ Y m (nI b) (nI t) y = some (bI (anyB (fun c => bt (X.1 (sd t L R) 0) c && decide (X.1 (sd t L R + 1) c = y)) 9)) := by
    rw [s10_hasName hm hb (by omega)]
    refine congrArg (fun z => some (bI z)) (anyB_congr (fun c hc => ?_))
    rw [← b0]
    cases ec : bt (X.1 (sd t L R) 0) c with
    | false => rfl
    | true => rw [← (b4 c hc ec).1]
  unfold f_X5_renameColumn f_X10_renames
  rw [grd_t hs.1, grd_t hm.1, s_hasColumn hO, hr, s_hasName hO, hn]
  cases e1 : inB 9 (X.1 (sd t L R) 0) x with
  | false => exact ⟨false, X, Y, rfl, rfl, ER.no hS⟩
  | true =>
    obtain ⟨c, hc, rfl, bc⟩ := inB_ex (by omega) e1
    have hO' := hO
    obtain ⟨h1, h2, h3, h4, h5, h6, h7, h8, h9, h10⟩ := hO
    obtain ⟨m0, m1, m2, m3, m4, m5, m6, m7, m8, m9, m10, m11, m12, m13, m14, m15, m16, m17, mq1, mq2, mq3, mq4, mq5, mq6, mq7, mq8, mq9, mq10, mq11, mq12, mq13, mq14, mq15, mq16, mq17, mn1, mn2, mn3, mn4, mn5, mn6, mn7, mn8, mn9, mn10, mn11, mn12, mn13, mn14, mn15, mn16, mn17⟩ := hm
    rcases i32_cases y 26 (by omega) with ⟨k, hk, rfl⟩ | hk | ⟨hk, hk2⟩
    · simp (disch := first | assumption | omega) only [litM, grd_t, grd_T, ldI_t, stI_t, ldA_t, stA_t, lenA_t, n_lt_t, n_lt_f, n_le_t, n_le_f, n_eq_t, n_eq_f, if_true, if_false, nI_add, nI_mul, bt_d, bI_z, bI_o, Option.bind_some, Bool.true_eq_false, Bool.false_eq_true, ldR, eq_self, if_true, Option.bind_some, h1, h2, m0, m3, bI_t, s_within, not_false_eq_true, and_self, decide_true]
      cases ea : anyB (fun c => bt (X.1 (sd t L R) 0) c && decide (X.1 (sd t L R + 1) c = nI k)) 9 with
      | true => exact ⟨false, X, Y, rfl, rfl, ER.no hS⟩
      | false =>
        refine ⟨true, sI X (sd t L R + 1) c (nI k), sI Y (m + 3) (b + 200 * t + 2 + c) (nI k), rfl, rfl, hS.own hs.lr ht (fun q h1 h2 h3 => sI_ne (by omega)) (fun j h1 h2 => sI_nk (by omega)) (hT.rename hc (sI_ne (by omega)) (fun j => sI_get) (sI_ne (by omega)) (sI_ne (by omega)) (fun j => sI_get)) (fun c h => by rw [sI_na (by omega)]; exact h), ⟨rfl, fun q hq => sI_ne (by omega)⟩, ⟨rfl, fun q hq => sI_ne hq, fun j hj => sI_nk (by omega)⟩, fun h => by cases h⟩
    · refine ⟨false, X, Y, ?_, ?_, ER.no hS⟩
      · simp (disch := first | assumption | omega) only [litM, grd_t, grd_T, ldI_t, stI_t, ldA_t, stA_t, lenA_t, n_lt_t, n_lt_f, n_le_t, n_le_f, n_eq_t, n_eq_f, if_true, if_false, nI_add, nI_mul, bt_d, bI_z, bI_o, Option.bind_some, Bool.true_eq_false, Bool.false_eq_true, bI_t, hk]; rfl
      · simp (disch := first | assumption | omega) only [litM, grd_t, grd_T, ldI_t, stI_t, ldA_t, stA_t, lenA_t, n_lt_t, n_lt_f, n_le_t, n_le_f, n_eq_t, n_eq_f, if_true, if_false, nI_add, nI_mul, bt_d, bI_z, bI_o, Option.bind_some, Bool.true_eq_false, Bool.false_eq_true, bI_t, s_within, hk, not_true, false_and, decide_false]; rfl
    · refine ⟨false, X, Y, ?_, ?_, ER.no hS⟩
      · simp (disch := first | assumption | omega) only [litM, grd_t, grd_T, ldI_t, stI_t, ldA_t, stA_t, lenA_t, n_lt_t, n_lt_f, n_le_t, n_le_f, n_eq_t, n_eq_f, if_true, if_false, nI_add, nI_mul, bt_d, bI_z, bI_o, Option.bind_some, Bool.true_eq_false, Bool.false_eq_true, bI_t, hk, hk2]; rfl
      · simp (disch := first | assumption | omega) only [litM, grd_t, grd_T, ldI_t, stI_t, ldA_t, stA_t, lenA_t, n_lt_t, n_lt_f, n_le_t, n_le_f, n_eq_t, n_eq_f, if_true, if_false, nI_add, nI_mul, bt_d, bI_z, bI_o, Option.bind_some, Bool.true_eq_false, Bool.false_eq_true, bI_t, s_within, hk, hk2, not_true, and_false, decide_false]; rfl
