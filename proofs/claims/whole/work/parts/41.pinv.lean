/-! ===== the whole: what holds between two calls ===== -/
def tpOK (σ : Sh) (t : Nat) : Prop := shK σ t = 6 ∧ shR σ t 0 = some (t + 1) ∧ shR σ t 2 = some (t + 2) ∧ shK σ (t + 1) = 9 ∧ shN σ (t + 1) = 700 ∧ stOK σ (t + 2) (t + 2 + 5) (t + 2 + 9)
def acOK (σ : Sh) (c : Nat) : Prop := shK σ c = 0 ∧ shR σ c 0 = some (c + 1) ∧ shK σ (c + 1) = 11 ∧ shN σ (c + 1) = 31
def snOK (σ : Sh) (n : Nat) : Prop := shK σ n = 3 ∧ shR σ n 1 = some (n + 1) ∧ shR σ n 2 = some (n + 2) ∧ shR σ n 3 = some (n + 3) ∧ shK σ (n + 1) = 10 ∧ shN σ (n + 1) = 8 ∧ shK σ (n + 2) = 10 ∧ shN σ (n + 2) = 8 ∧ shK σ (n + 3) = 10 ∧ shN σ (n + 3) = 8
def quOK (σ : Sh) (q : Nat) : Prop := shK σ q = 2 ∧ shR σ q 0 = some (q + 1) ∧ shR σ q 1 = some (q + 18) ∧ shR σ q 2 = some (q + 28) ∧ shR σ q 3 = some (q + 29) ∧ shR σ q 4 = some (q + 30) ∧ stOK σ (q + 1) (q + 1 + 5) (q + 1 + 9) ∧ mgOK σ (q + 18) ∧ shK σ (q + 28) = 10 ∧ shN σ (q + 28) = 7 ∧ shK σ (q + 29) = 10 ∧ shN σ (q + 29) = 21 ∧ shK σ (q + 30) = 10 ∧ shN σ (q + 30) = 10
/-- the object at a with all that it always has, the reference's object behind it, the row for answers -/
def objOK (σ : Sh) (a : Nat) : Prop := (shK σ a = 7 ∧ shR σ a 0 = some (a + 1) ∧ shR σ a 1 = some (a + 18) ∧ shR σ a 2 = some (a + 28) ∧ shR σ a 3 = some (a + 47) ∧ shR σ a 4 = some (a + 49) ∧ shR σ a 5 = some (a + 53) ∧ shR σ a 6 = some (a + 84) ∧ shR σ a 7 = some (a + 101) ∧ shR σ a 8 = some (a + 103) ∧ shR σ a 12 = some (a + 107)) ∧
  mgOK σ (a + 18) ∧ tpOK σ (a + 28) ∧ acOK σ (a + 47) ∧ snOK σ (a + 49) ∧ quOK σ (a + 53) ∧ stOK σ (a + 84) (a + 84 + 5) (a + 84 + 9) ∧ acOK σ (a + 101) ∧ snOK σ (a + 103) ∧ (shK σ (a + 107) = 10 ∧ shN σ (a + 107) = 3) ∧ mdOK σ (a + 108) ∧ (shK σ (a + 126) = 12 ∧ shN σ (a + 126) = 1)
/-- the States that acts are kept in: whole, behind all else, apart -/
def slOK (σ : Sh) (a : Nat) : Prop := (∀ c i s, (c = a + 48 ∨ c = a + 102) → i < 31 → shR σ c i = some s → stOK σ s (s + 5) (s + 9) ∧ a + 126 < s) ∧
  (∀ c i s c' i' s', (c = a + 48 ∨ c = a + 102) → i < 31 → shR σ c i = some s → (c' = a + 48 ∨ c' = a + 102) → i' < 31 → shR σ c' i' = some s' → (c ≠ c' ∨ i ≠ i') → s + 16 < s' ∨ s' + 16 < s)
def IVs (σ : Sh) (a L R : Nat) : Prop := objOK σ a ∧ stOK σ (a + 1) L R ∧ slOK σ a ∧ ShOK σ
def TapeR (X : Nat → Nat → Int32) (tp m : Nat) : Prop := ∃ t, t ≤ 700 ∧ X tp 1 = nI t ∧ X m 2 = nI t ∧ ∀ j, j < t → X (m + 1) j = X (tp + 1) j &&& nI 255 ∧ X (tp + 1) j = (X (tp + 1) j).toInt8.toInt32
def ActsR (σ : Sh) (X : Nat → Nat → Int32) (c : Nat) (acts : Int32) (kp : Nat) : Prop := ∃ k f, k ≤ 30 ∧ f < 31 ∧ X c 2 = nI k ∧ acts = nI k ∧ X c 1 = nI f ∧ ∀ i, i < k → ∃ s, shR σ (c + 1) ((f + i) % 31) = some s ∧ StR X s (s + 5) (s + 9) (X kp) (931 * i)
def SeenR (X : Nat → Nat → Int32) (n : Nat) (cnt : Int32) (ar : Nat) : Prop := ∃ k, k ≤ 8 ∧ X n 0 = nI k ∧ cnt = nI k ∧ ∀ i, i < k → ∃ p q, p < 20 ∧ q < 9 ∧ X (n + 1) i = nI p ∧ X (n + 2) i = nI q ∧ X ar (3 * i) = nI p ∧ X ar (3 * i + 1) = nI q ∧ X (n + 3) i = X ar (3 * i + 2)
/-- what both keep -/
def IVc (σ : Sh) (X : Nat → Nat → Int32) (a L R : Nat) : Prop :=
  StR X (a + 1) L R (X (a + 111)) 0 ∧ TapeR X (a + 28) (a + 108) ∧ ActsR σ X (a + 47) (X (a + 108) 19) (a + 112) ∧ SeenR X (a + 49) (X (a + 108) 32) (a + 122) ∧
  (X a 9 = X (a + 108) 35 ∧ (X a 9 = nI 0 ∨ (X a 9 = nI 1 ∧ StR X (a + 84) (a + 84 + 5) (a + 84 + 9) (X (a + 123)) 0 ∧ ActsR σ X (a + 101) (X (a + 108) 36) (a + 124) ∧ SeenR X (a + 103) (X (a + 108) 37) (a + 125)))) ∧
  (∃ f, f < 31 ∧ X (a + 101) 1 = nI f) ∧ (∀ i, i < 3 → X (a + 107) i = X (a + 110) i) ∧ X a 11 = X (a + 108) 4
/-- a merge of the class and one of the reference are alike -/
def MR (n : Nat) (ch : Nat → Int32) (Lh Rh : Int32) (X : Nat → Nat → Int32) (g : Nat) (Y : Nat → Nat → Int32) (m : Nat) : Prop :=
  TR 180 (X (g + 1)) (X (g + 2)) (X (g + 3)) (X (g + 4)) (X (g + 5)) (Y m 20) (Y m 21) (Y (m + 5)) (Y (m + 6)) (Y (m + 7)) (Y (m + 8)) ∧
  CF n (X g 2) (X (g + 6)) (X (g + 7)) (X (g + 8)) (Y m 22) (Y (m + 10)) ∧ US (fun _ => True) (X g 3) (Y (m + 11)) ch ∧ SR (Y m 20) Lh Rh (X (g + 9)) (Y (m + 9))
/-- the merge that stands is the one that the reference would make -/
def MgC (X : Nat → Nat → Int32) (a L R : Nat) : Prop := ∀ (τ : Sh) (Y : Mx), mdOK τ (a + 108) → (∀ j, j < 931 → Y.1 (a + 111) j = X (a + 111) j) → ∃ Y1 n, f_X10_merges τ Y (a + 108) (nI 0) = some Y1 ∧ FrY Y Y1 (a + 108) ∧ n ≤ 299 ∧ MR n (X (a + 17)) (X L 0) (X R 0) X (a + 18) Y1.1 (a + 108)
def IVm (X : Nat → Nat → Int32) (a L R : Nat) : Prop := X a 10 = nI 0 ∨ (X a 10 = nI 1 ∧ MgC X a L R)
/-- what the reference keeps over a question -/
def FrQ (Y Y1 : Mx) (m : Nat) : Prop := Y1.2 = Y.2 ∧ (∀ q, (q < m ∨ q = m + 1 ∨ q = m + 2 ∨ q = m + 4 ∨ m + 14 ≤ q) → Y1.1 q = Y.1 q) ∧ (∀ j, (j = 2 ∨ j = 4 ∨ j = 19 ∨ j = 32 ∨ j = 35 ∨ j = 36 ∨ j = 37) → Y1.1 m j = Y.1 m j) ∧ (∀ j, j < 931 → Y1.1 (m + 3) j = Y.1 (m + 3) j)
/-- the reference's answer to a question of three parts -/
def askQ (τ : Sh) (Y : Mx) (m q w : Nat) : Option (Int32 × Mx) := if q < 2 then f_X10_alone τ Y m (nI q) (nI w) else if q < 5 then f_X10_along τ Y m (nI (q - 2)) (nI w) else f_X10_edited τ Y m (nI w)
def QuC (X : Nat → Nat → Int32) (a q : Nat) : Prop := ∀ (w : Nat) (τ : Sh) (Y : Mx), w < 3 → mdOK τ (a + 108) → (∀ j, j < 931 → Y.1 (a + 111) j = X (a + 111) j) → Y.1 (a + 108) 32 = X (a + 108) 32 → (∀ j, j < 24 → Y.1 (a + 122) j = X (a + 122) j) → ∃ Y1, askQ τ Y (a + 108) q w = some (X (a + 82) (3 * q + w), Y1) ∧ FrQ Y Y1 (a + 108) ∧ Y1.1 (a + 108) 0 = nI 0
def IVq (X : Nat → Nat → Int32) (a : Nat) : Prop := ∀ q, q < 6 → X (a + 81) q = nI 0 ∨ QuC X a q
def IV (σ : Sh) (X : Mx) (a L R : Nat) : Prop := IVs σ a L R ∧ IVc σ X.1 a L R ∧ IVm X.1 a L R ∧ IVq X.1 a
/-! frames -/
theorem TapeR.fr {X X1 : Nat → Nat → Int32} {tp m : Nat} (h : TapeR X tp m) (h1 : X1 tp 1 = X tp 1) (h2 : X1 m 2 = X m 2) (h3 : X1 (m + 1) = X (m + 1)) (h4 : X1 (tp + 1) = X (tp + 1)) : TapeR X1 tp m := by
  unfold TapeR; rw [h1, h2, h3, h4]; exact h
theorem ActsR.fr {σ : Sh} {X X1 : Nat → Nat → Int32} {a c kp : Nat} {ac ac1 : Int32} (hc : c = a + 47 ∨ c = a + 101) (hs : slOK σ a) (h : ActsR σ X c ac kp) (h1 : X1 c 1 = X c 1) (h2 : X1 c 2 = X c 2) (h3 : ac1 = ac) (h4 : X1 kp = X kp) (h5 : ∀ q, a + 126 < q → X1 q = X q) : ActsR σ X1 c ac1 kp := by
  obtain ⟨k, f, a1, a2, a3, a4, a5, a6⟩ := h
  refine ⟨k, f, a1, a2, h2.trans a3, h3.trans a4, h1.trans a5, fun i hi => ?_⟩
  obtain ⟨s, b1, b2⟩ := a6 i hi
  have hb := (hs.1 (c + 1) ((f + i) % 31) s (by omega) (Nat.mod_lt _ (by omega)) b1).2
  rw [h4]
  exact ⟨s, b1, b2.fr (Or.inl ⟨rfl, rfl⟩) (fun q h1 _ => h5 q (by omega)) (fun _ _ => rfl)⟩
theorem SeenR.fr {X X1 : Nat → Nat → Int32} {n ar : Nat} {c c1 : Int32} (h : SeenR X n c ar) (h0 : X1 n = X n) (h1 : X1 (n + 1) = X (n + 1)) (h2 : X1 (n + 2) = X (n + 2)) (h3 : X1 (n + 3) = X (n + 3)) (hc : c1 = c) (ha : X1 ar = X ar) : SeenR X1 n c1 ar := by
  unfold SeenR; rw [h0, h1, h2, h3, hc, ha]; exact h
/-- what a question may change of the class -/
def FrC (X X1 : Mx) (a : Nat) : Prop := X1.2 = X.2 ∧ (∀ q, q ≠ a → (q < a + 18 ∨ a + 27 < q) → (q < a + 53 ∨ a + 83 < q) → X1.1 q = X.1 q) ∧ (∀ j, j ≠ 10 → X1.1 a j = X.1 a j)
theorem FrC.refl {X : Mx} {a : Nat} : FrC X X a := ⟨rfl, fun _ _ _ _ => rfl, fun _ _ => rfl⟩
theorem FrC.trans {X Y Z : Mx} {a : Nat} (h : FrC X Y a) (k : FrC Y Z a) : FrC X Z a := ⟨k.1.trans h.1, fun q h1 h2 h3 => (k.2.1 q h1 h2 h3).trans (h.2.1 q h1 h2 h3), fun j hj => (k.2.2 j hj).trans (h.2.2 j hj)⟩
theorem IVc.fr {σ : Sh} {X X1 : Nat → Nat → Int32} {a L R : Nat} (hs : IVs σ a L R) (h : IVc σ X a L R) (hq : ∀ q, (a + 1 ≤ q ∧ q ≤ a + 17) ∨ q = a + 29 ∨ (a + 49 ≤ q ∧ q ≤ a + 52) ∨ (a + 84 ≤ q ∧ q ≤ a + 100) ∨ (a + 103 ≤ q ∧ q ≤ a + 107) ∨ q = a + 109 ∨ q = a + 110 ∨ q = a + 112 ∨ (a + 122 ≤ q ∧ q ≤ a + 125) ∨ a + 126 < q → X1 q = X q) (h28 : X1 (a + 28) 1 = X (a + 28) 1) (h47 : ∀ j, 1 ≤ j → X1 (a + 47) j = X (a + 47) j) (h101 : ∀ j, 1 ≤ j → X1 (a + 101) j = X (a + 101) j) (h9 : X1 a 9 = X a 9) (h11 : X1 a 11 = X a 11)
    (hm : ∀ j, (j = 2 ∨ j = 4 ∨ j = 19 ∨ j = 32 ∨ j = 35 ∨ j = 36 ∨ j = 37) → X1 (a + 108) j = X (a + 108) j) (hr : ∀ j, j < 931 → X1 (a + 111) j = X (a + 111) j) : IVc σ X1 a L R := by
  obtain ⟨c1, c2, c3, c4, ⟨c5, c6⟩, ⟨f, c7, c8⟩, c9, c10⟩ := h
  refine ⟨c1.fr hs.2.1.lr (fun q h1 h2 => hq q (by omega)) (fun j hj => by rw [Nat.zero_add]; exact hr j hj), c2.fr h28 (hm 2 (by omega)) (hq _ (by omega)) (hq _ (by omega)), c3.fr (Or.inl rfl) hs.2.2.1 (h47 1 (by omega)) (h47 2 (by omega)) (hm 19 (by omega)) (hq _ (by omega)) (fun q h => hq q (by omega)), c4.fr (hq _ (by omega)) (hq _ (by omega)) (hq _ (by omega)) (hq _ (by omega)) (hm 32 (by omega)) (hq _ (by omega)), ⟨by rw [h9, hm 35 (by omega)]; exact c5, ?_⟩, ⟨f, c7, (h101 1 (by omega)).trans c8⟩, fun i hi => by rw [hq (a + 107) (by omega), hq (a + 110) (by omega)]; exact c9 i hi, by rw [h11, hm 4 (by omega)]; exact c10⟩
  rw [h9]
  refine c6.imp_right (fun ⟨d1, d2, d3, d4⟩ => ⟨d1, ?_, ?_, ?_⟩)
  · rw [hq (a + 123) (by omega)]
    exact d2.fr (Or.inl ⟨rfl, rfl⟩) (fun q h1 h2 => hq q (by omega)) (fun _ _ => rfl)
  · exact d3.fr (Or.inr rfl) hs.2.2.1 (h101 1 (by omega)) (h101 2 (by omega)) (hm 36 (by omega)) (hq _ (by omega)) (fun q h => hq q (by omega))
  · exact d4.fr (hq _ (by omega)) (hq _ (by omega)) (hq _ (by omega)) (hq _ (by omega)) (hm 37 (by omega)) (hq _ (by omega))
theorem IVc.frC {σ : Sh} {X X1 : Mx} {a L R : Nat} (hs : IVs σ a L R) (h : IVc σ X.1 a L R) (f : FrC X X1 a) : IVc σ X1.1 a L R :=
  h.fr hs (fun q hq => f.2.1 q (by omega) (by omega) (by omega)) (by rw [f.2.1 (a + 28) (by omega) (by omega) (by omega)]) (fun j _ => by rw [f.2.1 (a + 47) (by omega) (by omega) (by omega)]) (fun j _ => by rw [f.2.1 (a + 101) (by omega) (by omega) (by omega)]) (f.2.2 9 (by omega)) (f.2.2 11 (by omega)) (fun j _ => by rw [f.2.1 (a + 108) (by omega) (by omega) (by omega)]) (fun j _ => by rw [f.2.1 (a + 111) (by omega) (by omega) (by omega)])
theorem IVm.fr {X X1 : Nat → Nat → Int32} {a L R : Nat} (h : IVm X a L R) (hLR : a + 1 ≤ L ∧ L ≤ a + 17 ∧ a + 1 ≤ R ∧ R ≤ a + 17) (h10 : X1 a 10 = X a 10) (hq : ∀ q, a + 1 ≤ q → q ≤ a + 27 → X1 q = X q) (hr : ∀ j, j < 931 → X1 (a + 111) j = X (a + 111) j) : IVm X1 a L R := by
  unfold IVm
  rw [h10]
  refine h.imp_right (fun ⟨d1, d2⟩ => ⟨d1, fun τ Y hm hY => ?_⟩)
  obtain ⟨Y1, n, e1, e2, e3, e4⟩ := d2 τ Y hm (fun j hj => (hY j hj).trans (hr j hj))
  refine ⟨Y1, n, e1, e2, e3, ?_⟩
  unfold MR
  rw [hq (a + 17) (by omega) (by omega), hq L (by omega) (by omega), hq R (by omega) (by omega), hq (a + 18) (by omega) (by omega), hq (a + 18 + 1) (by omega) (by omega), hq (a + 18 + 2) (by omega) (by omega), hq (a + 18 + 3) (by omega) (by omega), hq (a + 18 + 4) (by omega) (by omega), hq (a + 18 + 5) (by omega) (by omega), hq (a + 18 + 6) (by omega) (by omega), hq (a + 18 + 7) (by omega) (by omega), hq (a + 18 + 8) (by omega) (by omega), hq (a + 18 + 9) (by omega) (by omega)]
  exact e4
theorem QuC.fr {X X1 : Nat → Nat → Int32} {a q : Nat} (h : QuC X a q) (hq : q < 6) (h82 : ∀ j, j < 18 → X1 (a + 82) j = X (a + 82) j) (hr : ∀ j, j < 931 → X1 (a + 111) j = X (a + 111) j) (h32 : X1 (a + 108) 32 = X (a + 108) 32) (hn : ∀ j, j < 24 → X1 (a + 122) j = X (a + 122) j) : QuC X1 a q := by
  intro w τ Y hw hm y1 y2 y3
  rw [h82 _ (by omega)]
  exact h w τ Y hw hm (fun j hj => (y1 j hj).trans (hr j hj)) (y2.trans h32) (fun j hj => (y3 j hj).trans (hn j hj))
theorem IVq.fr {X X1 : Nat → Nat → Int32} {a : Nat} (h : IVq X a) (h81 : X1 (a + 81) = X (a + 81)) (h82 : X1 (a + 82) = X (a + 82)) (hr : ∀ j, j < 931 → X1 (a + 111) j = X (a + 111) j) (h32 : X1 (a + 108) 32 = X (a + 108) 32) (hn : ∀ j, j < 24 → X1 (a + 122) j = X (a + 122) j) : IVq X1 a := fun q hq => by
  rw [h81]
  exact (h q hq).imp_right (fun z => z.fr hq (fun j _ => by rw [h82]) hr h32 hn)
theorem IVs.lr {σ : Sh} {a L R : Nat} (h : IVs σ a L R) : a + 1 ≤ L ∧ L ≤ a + 17 ∧ a + 1 ≤ R ∧ R ≤ a + 17 := by
  have := h.2.1.lr
  omega
theorem IV.frQ {σ : Sh} {X X1 : Mx} {a L R : Nat} (h : IV σ X a L R) (f : FrQ X X1 (a + 108)) : IV σ X1 a L R := by
  obtain ⟨hs, hc, hm, hq⟩ := h
  obtain ⟨f1, f2, f3, f4⟩ := f
  refine ⟨hs, hc.fr hs (fun q h => f2 q (by omega)) (by rw [f2 _ (by omega)]) (fun j _ => by rw [f2 _ (by omega)]) (fun j _ => by rw [f2 _ (by omega)]) (by rw [f2 a (by omega)]) (by rw [f2 a (by omega)]) f3 f4, hm.fr hs.lr (by rw [f2 a (by omega)]) (fun q h1 h2 => f2 q (by omega)) f4, hq.fr (f2 _ (by omega)) (f2 _ (by omega)) f4 (f3 32 (by omega)) (fun j _ => by rw [f2 (a + 122) (by omega)])⟩
theorem IV.out {σ : Sh} {X X1 : Mx} {a L R : Nat} (h : IV σ X a L R) (e : X1.1 = X.1) : IV σ X1 a L R := by
  unfold IV; rw [e]; exact h
theorem FrY.q {Y Y1 : Mx} {m : Nat} (h : FrY Y Y1 m) : FrQ Y Y1 m := ⟨h.1, fun q hq => h.2.1 q (by omega) (by omega), fun j hj => h.2.2 j (by omega) (by omega) (by omega), fun j _ => by rw [h.2.1 (m + 3) (by omega) (by omega)]⟩
theorem FrQ.refl {Y : Mx} {m : Nat} : FrQ Y Y m := ⟨rfl, fun _ _ => rfl, fun _ _ => rfl, fun _ _ => rfl⟩
theorem FrQ.trans {X Y Z : Mx} {m : Nat} (h : FrQ X Y m) (k : FrQ Y Z m) : FrQ X Z m := ⟨k.1.trans h.1, fun q hq => (k.2.1 q hq).trans (h.2.1 q hq), fun j hj => (k.2.2.1 j hj).trans (h.2.2.1 j hj), fun j hj => (k.2.2.2 j hj).trans (h.2.2.2 j hj)⟩
/-- a field that the reference doesn't keep -/
theorem FrQ.fld {Y : Mx} {m k : Nat} {v : Int32} (h : ¬ (k = 2 ∨ k = 4 ∨ k = 19 ∨ k = 32 ∨ k = 35 ∨ k = 36 ∨ k = 37)) : FrQ Y (sI Y m k v) m := ⟨rfl, fun q hq => sI_ne (by omega), fun j hj => sI_nk (fun e => h (e ▸ hj)), fun j _ => sI_na (by omega)⟩
/-- the merge that stands -/
theorem fresh {σ : Sh} {X : Mx} {a L R : Nat} (h : IV σ X a L R) : ∃ X1, f_X9_freshMerge σ X a = some (a + 18, X1) ∧ IV σ X1 a L R ∧ MgC X1.1 a L R ∧ FrC X X1 a ∧ (∀ q, q ≠ a → (q < a + 18 ∨ a + 27 < q) → X1.1 q = X.1 q) := by
  obtain ⟨hs, hc, hm, hq⟩ := h
  obtain ⟨⟨⟨o0, o1, o2, o3, o4, o5, o6, o7, o8, o9, o10⟩, oM, oT, oA, oS, oQ, oI, oA2, oS2, oR, oD, oO⟩, hst, hsl, hsh⟩ := id hs
  rcases hm with hm | ⟨hm, hC⟩
  · have hS0 := hc.1
    have hrun : ∀ (τ : Sh) (Y : Mx), mdOK τ (a + 108) → (∀ j, j < 931 → Y.1 (a + 111) j = X.1 (a + 111) j) → ∃ X1 Y1 n, f_X2_run σ X (a + 18) (a + 1) = some X1 ∧ f_X10_merges τ Y (a + 108) (nI 0) = some Y1 ∧ n ≤ 299 ∧ MI 180 (fun _ => True) n (X.1 (a + 17)) (X.1 L 0) (X.1 R 0) X X1 (a + 18) Y Y1 (a + 108) := by
      intro τ Y hm hY
      exact merge_rel (b := 0) oM hst hm (by omega) (Or.inl (by omega)) (hS0.fr hst.lr (fun _ _ _ => rfl) (fun j hj => by rw [Nat.zero_add]; exact hY j hj))
    obtain ⟨X1, Y1, n, e1, -, -, hMI⟩ := hrun σ X oD (fun _ _ => rfl)
    have hfr := hMI.1
    refine ⟨sI X1 a 10 (nI 1), ?_, ?_⟩
    · have hx : X1.1 a 10 = X.1 a 10 := by rw [hfr.2 a (by omega)]
      simp (disch := first | assumption | omega) only [f_X9_freshMerge, litM, grd_t, grd_T, ldI_t, stI_t, ldA_t, stA_t, lenA_t, n_lt_t, n_lt_f, n_le_t, n_le_f, n_eq_t, n_eq_f, if_true, if_false, nI_add, nI_mul, bt_d, bI_z, bI_o, Option.bind_some, Bool.true_eq_false, Bool.false_eq_true, ldR, eq_self, if_true, Option.bind_some, o0, o1, o2, hm, e1]
    have hF : FrC X (sI X1 a 10 (nI 1)) a := ⟨hfr.1, fun q h1 h2 h3 => by rw [sI_ne h1]; exact hfr.2 q (by omega), fun j hj => by rw [sI_nk hj, hfr.2 a (by omega)]⟩
    have hF2 : ∀ q, q ≠ a → (q < a + 18 ∨ a + 27 < q) → (sI X1 a 10 (nI 1)).1 q = X.1 q := fun q h1 h2 => by rw [sI_ne h1]; exact hfr.2 q (by omega)
    have lr := hs.lr
    have hMg : MgC (sI X1 a 10 (nI 1)).1 a L R := by
      intro τ Y hm2 hY
      rw [hF2 (a + 17) (by omega) (by omega), hF2 L (by omega) (by omega), hF2 R (by omega) (by omega)]
      obtain ⟨X1', Y1, n, k1, k2, k3, k4⟩ := hrun τ Y hm2 (fun j hj => by rw [hY j hj, hF2 (a + 111) (by omega) (by omega)])
      rw [e1] at k1
      cases k1
      refine ⟨Y1, n, k2, k4.2.1, k3, ?_⟩
      have k5 := k4.2.2
      unfold MR
      simp (disch := first | assumption | omega) only [sI_na, sI_ne]
      exact k5
    exact ⟨⟨hs, hc.frC hs hF, Or.inr ⟨sI_eq, hMg⟩, hq.fr (hF2 _ (by omega) (by omega)) (hF2 _ (by omega) (by omega)) (fun j _ => by rw [hF2 _ (by omega) (by omega)]) (by rw [hF2 _ (by omega) (by omega)]) (fun j _ => by rw [hF2 _ (by omega) (by omega)])⟩, hMg, hF, hF2⟩
  · refine ⟨X, ?_, ⟨hs, hc, Or.inr ⟨hm, hC⟩, hq⟩, hC, FrC.refl, fun _ _ _ => rfl⟩
    simp (disch := first | assumption | omega) only [f_X9_freshMerge, litM, grd_t, grd_T, ldI_t, stI_t, ldA_t, stA_t, lenA_t, n_lt_t, n_lt_f, n_le_t, n_le_f, n_eq_t, n_eq_f, if_true, if_false, nI_add, nI_mul, bt_d, bI_z, bI_o, Option.bind_some, Bool.true_eq_false, Bool.false_eq_true, ldR, eq_self, if_true, Option.bind_some, o0, o2, hm]
