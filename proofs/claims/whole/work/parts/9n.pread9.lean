/-! ===== reading: what is told ===== -/
def LF (X X1 : Mx) (tp : Nat) : Prop := X1.2 = X.2 ∧ (∀ r, r ≠ tp → (r < tp + 2 ∨ tp + 18 < r) → X1.1 r = X.1 r) ∧ X1.1 tp 1 = X.1 tp 1
def LM (Y Y1 : Mx) (m : Nat) : Prop := (∀ r, r ≠ m → Y1.2 r = Y.2 r) ∧ (∀ r, r ≠ m → r ≠ m + 3 → Y1.1 r = Y.1 r) ∧ (∀ j, (j < 3 ∨ j = 5 ∨ j = 6 ∨ 16 < j) → Y1.1 m j = Y.1 m j) ∧ (∀ j, j < 931 → Y1.1 (m + 3) j = Y.1 (m + 3) j)
theorem LF.refl {X : Mx} {tp : Nat} : LF X X tp := ⟨rfl, fun _ _ _ => rfl, rfl⟩
theorem LM.refl {X : Mx} {m : Nat} : LM X X m := ⟨fun _ _ => rfl, fun _ _ _ => rfl, fun _ _ => rfl, fun _ _ => rfl⟩
theorem LF.trans {X Y Z : Mx} {tp : Nat} (h : LF X Y tp) (k : LF Y Z tp) : LF X Z tp := ⟨k.1.trans h.1, fun r a b => (k.2.1 r a b).trans (h.2.1 r a b), k.2.2.trans h.2.2⟩
theorem LM.trans {X Y Z : Mx} {m : Nat} (h : LM X Y m) (k : LM Y Z m) : LM X Z m := ⟨fun r a => (k.1 r a).trans (h.1 r a), fun r a b => (k.2.1 r a b).trans (h.2.1 r a b), fun j a => (k.2.2.1 j a).trans (h.2.2.1 j a), fun j a => (k.2.2.2 j a).trans (h.2.2.2 j a)⟩
theorem TkF.lf {X X1 : Mx} {tp : Nat} (h : TkF X X1 tp) : LF X X1 tp := ⟨h.1, fun r a _ => h.2.1 r a, h.2.2 1 (by omega) (by omega) (by omega) (by omega) (by omega)⟩
theorem MkF.lm {X X1 : Mx} {m : Nat} (h : MkF X X1 m) : LM X X1 m := ⟨h.1, fun r a _ => h.2.1 r a, fun j a => h.2.2 j (by omega) (by omega) (by omega), fun j _ => by rw [h.2.1 (m + 3) (by omega)]⟩
def DmW (X : Nat → Nat → Int32) (s : Nat) (W : Nat → Int32) (d : Nat) : Prop := ∀ i, i < d → ∃ kd f q, kd < 3 ∧ f < 9 ∧ q < 9 ∧ X (s + 13) i = nI kd ∧ X (s + 14) i = nI f ∧ X (s + 15) i = nI q ∧ W (931 + 601 + i) = nI kd ∧ W (931 + 605 + i) = nI f ∧ (kd = 2 → W (931 + 609 + i) = nI q) ∧ (kd ≠ 2 → q = f)
def BsR (X Y : Mx) (tp m nc nr d : Nat) : Prop := TabR X.1 (tp + 2 + 1) (Y.1 (m + 3)) (931 + 200 * 2) ∧ (∀ c, bt (X.1 (tp + 2 + 1) 0) c = decide (c < nc)) ∧ nc ≤ 5 ∧ cnt 20 (X.1 (tp + 2 + 1) 1) = nr ∧ nr ≤ 12 ∧ Y.1 m 14 = nI nc ∧ Y.1 m 15 = nI nr ∧ X.1 tp 9 = bI (decide (0 < nr)) ∧ X.1 tp 10 = nI 0 ∧ Y.1 m 16 = nI 0 ∧ d ≤ 4 ∧ X.1 (tp + 2) 5 = nI d ∧ Y.1 (m + 3) (931 + 600) = nI d ∧ DmW X.1 (tp + 2) (Y.1 (m + 3)) d ∧ Y.1 (m + 3) (931 + 613) = nI 0 ∧ Y.1 (m + 3) (931 + 614) = nI 0 ∧ (∀ i, i < 316 → Y.1 (m + 3) (931 + 615 + i) = -(nI 1))
def EdR (X Y : Mx) (tp m k : Nat) : Prop := StR X.1 (tp + 2) (tp + 2 + 5) (tp + 2 + 9) (Y.1 (m + 3)) 931 ∧ X.1 tp 10 = nI 1 ∧ ∃ ec, 1 ≤ ec ∧ ec ≤ k ∧ Y.1 m 16 = nI ec
def Told (X Y : Mx) (tp m k : Nat) : Prop := (∃ nc nr d, BsR X Y tp m nc nr d) ∨ EdR X Y tp m k
theorem BsR.tk {X Y X1 Y1 : Mx} {tp m nc nr d : Nat} (h : BsR X Y tp m nc nr d) (hx : TkF X X1 tp) (hy : MkF Y Y1 m) : BsR X1 Y1 tp m nc nr d := by
  unfold BsR DmW at h ⊢
  rw [hy.2.1 (m + 3) (by omega), hx.2.1 (tp + 2) (by omega), hx.2.1 (tp + 2 + 1) (by omega), hx.2.1 (tp + 2 + 13) (by omega), hx.2.1 (tp + 2 + 14) (by omega), hx.2.1 (tp + 2 + 15) (by omega), hx.2.2 9 (by omega) (by omega) (by omega) (by omega) (by omega), hx.2.2 10 (by omega) (by omega) (by omega) (by omega) (by omega), hy.2.2 14 (by omega) (by omega) (by omega), hy.2.2 15 (by omega) (by omega) (by omega), hy.2.2 16 (by omega) (by omega) (by omega)]
  exact ⟨h.1.fr (fun q a b => hx.2.1 q (by omega)) (fun j _ _ => rfl), h.2⟩
theorem EdR.tk {X Y X1 Y1 : Mx} {tp m k : Nat} (h : EdR X Y tp m k) (hx : TkF X X1 tp) (hy : MkF Y Y1 m) : EdR X1 Y1 tp m k := by
  obtain ⟨h1, h2, ec, h3, h4, h5⟩ := h
  refine ⟨h1.fr (Or.inl ⟨rfl, rfl⟩) (fun q a b => hx.2.1 q (by omega)) (fun j _ => by rw [hy.2.1 (m + 3) (by omega)]), by rw [hx.2.2 10 (by omega) (by omega) (by omega) (by omega) (by omega)]; exact h2, ec, h3, h4, by rw [hy.2.2 16 (by omega) (by omega) (by omega)]; exact h5⟩
theorem Told.tk {X Y X1 Y1 : Mx} {tp m k : Nat} (h : Told X Y tp m k) (hx : TkF X X1 tp) (hy : MkF Y Y1 m) : Told X1 Y1 tp m k := by
  rcases h with ⟨nc, nr, d, h⟩ | h
  · exact Or.inl ⟨nc, nr, d, h.tk hx hy⟩
  · exact Or.inr (h.tk hx hy)
theorem GdR.fr {X Y X1 Y1 : Mx} {tp m e st be : Nat} {β : Nat → Nat} (h : GdR X Y tp m e β st be) (x0 : X1.1 (tp + 1) = X.1 (tp + 1)) (x1 : ∀ j, 2 < j → j < 9 → X1.1 tp j = X.1 tp j) (y0 : Y1.1 (m + 1) = Y.1 (m + 1)) (y1 : ∀ j, (2 < j ∧ j < 13) → Y1.1 m j = Y.1 m j) (y2 : Y1.2 m 13 = Y.2 m 13) : GdR X1 Y1 tp m e β st be := by
  obtain ⟨h1, h2, h3, h4, h5, h6⟩ := h
  refine ⟨h1.fr x0 y0, ⟨by rw [x1 5 (by omega) (by omega)]; exact h2.1, by rw [x1 3 (by omega) (by omega)]; exact h2.2.1, by rw [y1 4 (by omega)]; exact h2.2.2⟩, by rw [y1 6 (by omega)]; exact h3, by rw [x1 4 (by omega) (by omega)]; exact h4, by rw [y1 3 (by omega)]; exact h5, ?_⟩
  unfold TokR at h6 ⊢
  rw [x1 6 (by omega) (by omega), x1 7 (by omega) (by omega), x1 8 (by omega) (by omega), y1 7 (by omega), y1 8 (by omega), y1 9 (by omega), y1 10 (by omega), y1 11 (by omega), y1 12 (by omega), y2]
  exact h6
/-- what comes of a line -/
def LnR (X Y : Mx) (tp m e : Nat) (β : Nat → Nat) (be k : Nat) (fc fm : Option Mx) : Prop := ∃ X1 Y1, fc = some X1 ∧ fm = some Y1 ∧ LF X X1 tp ∧ LM Y Y1 m ∧ ((∃ st1 be1, be ≤ st1 ∧ GdR X1 Y1 tp m e β st1 be1 ∧ Told X1 Y1 tp m k) ∨ DdR X1 Y1 tp m e β)
theorem col85_d {σ τ : Sh} {X : Mx} {tp m e : Nat} {β : Nat → Nat} {x y : Int32} (hp : tpOK σ tp) (hm : mdOK τ m) (h : RdC X tp e β) (hf : ¬ X.1 tp 4 = nI 0) : ∃ X1, f_X7_readColumn_85 σ tp x y X = some X1 ∧ CD X X1 tp e β := by
  obtain ⟨v, X1, a1, a2⟩ := type_d hp hm h hf
  have hf1 : ¬ X1.1 tp 4 = nI 0 := by rw [a2.2.2.1]; exact hf
  obtain ⟨X2, b1, b2⟩ := semi_d hp hm a2.2.2.2 hf1
  refine ⟨X2, ?_, a2.trans b2⟩
  unfold f_X7_readColumn_85
  simp only [litM]
  rw [a1, bnd2_k, b1, Option.bind_some, ldI_t hp.1, if_neg (by rw [b2.2.2.1]; exact hf1)]
theorem col44_d {σ τ : Sh} {X : Mx} {tp m e : Nat} {β : Nat → Nat} {x y0 y1 : Int32} {X1 : Mx} (hp : tpOK σ tp) (hm : mdOK τ m) (e0 : f_X7_takeHead σ X tp y0 y1 = some X1) (h : RdC X1 tp e β) (hf : ¬ X1.1 tp 4 = nI 0) : ∃ X2, f_X7_readColumn_44 σ tp x X tp y0 y1 = some X2 ∧ CD X1 X2 tp e β := by
  obtain ⟨v, X2, a1, a2⟩ := name_d hp hm h hf
  have hf1 : ¬ X2.1 tp 4 = nI 0 := by rw [a2.2.2.1]; exact hf
  obtain ⟨X3, b1, b2⟩ := col85_d (x := x) (y := v) hp hm a2.2.2.2 hf1
  refine ⟨X3, ?_, a2.trans b2⟩
  unfold f_X7_readColumn_44
  simp only [litM]
  rw [e0, Option.bind_some, ldI_t hp.1, a1, bnd2_k, ldI_t hp.1, if_neg hf1, b1]
theorem bt_full {w : Int32} {n : Nat} (h : ∀ c, bt w c = decide (c < n)) (hn : n ≤ 9) : cnt 20 w = n := by
  have k : ∀ m, cnt m w = min m n := by
    intro m
    induction m with
    | zero => rw [Nat.zero_min]; rfl
    | succ m ih =>
      by_cases q : m < n
      · rw [cnt_t (by rw [h]; exact decide_eq_true q), ih]; omega
      · rw [cnt_f (by rw [h]; exact decide_eq_false q), ih]; omega
  rw [k 20]; omega
theorem cnt_0 {w : Int32} (h : cnt 20 w = 0) : ∀ k, k < 20 → bt w k = false := by
  intro k hk
  cases e : bt w k with
  | false => rfl
  | true => have := cnt_lt2 (h := w) hk e; omega
theorem told_sk {σ : Sh} {tp : Nat} (hp : tpOK σ tp) : stOK σ (tp + 2) (tp + 2 + 5) (tp + 2 + 9) := hp.2.2.2.2.2
