/-- a literal, as a rewriting that isn't by computation alone (so that simp makes the deciding anew) -/
theorem litM (n : Nat) : (no_index (OfNat.ofNat n) : Int32) = nI (OfNat.ofNat n) := (fun h => h) (Eq.refl (nI (OfNat.ofNat n)))
/-! ===== the merge: what is alike between the class's and the reference's ===== -/
/-- a Merge at g, its Table and rows behind it -/
def mgOK (σ : Sh) (g : Nat) : Prop := shK σ g = 1 ∧ shR σ g 0 = some (g + 1) ∧ shR σ g 1 = some (g + 5) ∧ shR σ g 4 = some (g + 6) ∧ shR σ g 5 = some (g + 7) ∧ shR σ g 6 = some (g + 8) ∧ shR σ g 7 = some (g + 9) ∧ tabOK σ (g + 1) ∧ shK σ (g + 5) = 10 ∧ shN σ (g + 5) = 180 ∧ shK σ (g + 6) = 10 ∧ shN σ (g + 6) = 316 ∧ shK σ (g + 7) = 10 ∧ shN σ (g + 7) = 316 ∧ shK σ (g + 8) = 10 ∧ shN σ (g + 8) = 316 ∧ shK σ (g + 9) = 10 ∧ shN σ (g + 9) = 9
def chOK (v : Int32) : Prop := v = -(nI 1) ∨ v = nI 0 ∨ v = nI 1 ∨ v = nI 2
/-- choices that can come up: names, types and absences only of the five own columns -/
def okI (i : Nat) : Prop := i < 316 ∧ (i < 27 → i % 9 < 5)
def chOI (i : Nat) (v : Int32) : Prop := chOK v ∧ (i < 27 → 5 ≤ i % 9 → v = -(nI 1))
/-- a State of the class and a row of the reference are alike -/
def StR (X : Nat → Nat → Int32) (s L R : Nat) (W : Nat → Int32) (b : Nat) : Prop :=
  TabR X L W (b + 200 * 0) ∧ TabR X R W (b + 200 * 1) ∧ TabR X (s + 1) W (b + 200 * 2) ∧
  low 5 (X (s + 1) 0) ∧ (bt (X L 0) 7 = false ∧ bt (X L 0) 8 = false) ∧ (bt (X R 0) 5 = false ∧ bt (X R 0) 6 = false) ∧
  (∃ d, d ≤ 4 ∧ X s 5 = nI d ∧ W (b + 600) = nI d ∧ ∀ i, i < d → ∃ kd f q, kd < 3 ∧ f < 9 ∧ q < 9 ∧ X (s + 13) i = nI kd ∧ X (s + 14) i = nI f ∧ X (s + 15) i = nI q ∧ W (b + 601 + i) = nI kd ∧ W (b + 605 + i) = nI f ∧ (kd = 2 → W (b + 609 + i) = nI q) ∧ (kd ≠ 2 → q = f)) ∧
  (∃ d, d ≤ 2 ∧ X s 3 = nI d ∧ W (b + 613) = nI d ∧ ∀ j, d ≤ j → j < 2 → bt (X L 0) (5 + j) = false) ∧
  (∃ d, d ≤ 2 ∧ X s 4 = nI d ∧ W (b + 614) = nI d ∧ ∀ j, d ≤ j → j < 2 → bt (X R 0) (7 + j) = false) ∧
  (∀ i, i < 316 → X (s + 16) i = W (b + 615 + i) ∧ chOI i (X (s + 16) i))
/-- nothing else of the class's memory changed -/
def FrX (X X1 : Mx) (lo hi : Nat) : Prop := X1.2 = X.2 ∧ ∀ q, (q < lo ∨ hi < q) → X1.1 q = X.1 q
def FrY (Y Y1 : Mx) (m : Nat) : Prop := Y1.2 = Y.2 ∧ (∀ q, q ≠ m → (q < m + 5 ∨ m + 11 < q) → Y1.1 q = Y.1 q) ∧ (∀ j, j ≠ 20 → j ≠ 21 → j ≠ 22 → Y1.1 m j = Y.1 m j)
theorem FrX.refl {X : Mx} {lo hi : Nat} : FrX X X lo hi := ⟨rfl, fun _ _ => rfl⟩
theorem FrX.trans {X Y Z : Mx} {lo hi : Nat} (h : FrX X Y lo hi) (k : FrX Y Z lo hi) : FrX X Z lo hi := ⟨k.1.trans h.1, fun q hq => (k.2 q hq).trans (h.2 q hq)⟩
theorem FrX.wide {X Y : Mx} {lo hi lo' hi' : Nat} (h : FrX X Y lo hi) (h1 : lo' ≤ lo) (h2 : hi ≤ hi') : FrX X Y lo' hi' := ⟨h.1, fun q hq => h.2 q (by omega)⟩
theorem FrY.refl {Y : Mx} {m : Nat} : FrY Y Y m := ⟨rfl, fun _ _ _ => rfl, fun _ _ _ _ => rfl⟩
theorem FrY.trans {X Y Z : Mx} {m : Nat} (h : FrY X Y m) (k : FrY Y Z m) : FrY X Z m := ⟨k.1.trans h.1, fun q h1 h2 => (k.2.1 q h1 h2).trans (h.2.1 q h1 h2), fun j h1 h2 h3 => (k.2.2 j h1 h2 h3).trans (h.2.2 j h1 h2 h3)⟩
theorem TabR.fr {X X1 : Nat → Nat → Int32} {a o : Nat} {W W1 : Nat → Int32} (h : TabR X a W o) (hx : ∀ q, a ≤ q → q ≤ a + 3 → X1 q = X q) (hw : ∀ j, o ≤ j → j < o + 200 → W1 j = W j) : TabR X1 a W1 o := by
  obtain ⟨b0, b1, b2, b3, b4, b5, b6⟩ := h
  have e0 := hx a (by omega) (by omega)
  have e1 := hx (a + 1) (by omega) (by omega)
  have e2 := hx (a + 2) (by omega) (by omega)
  have e3 := hx (a + 3) (by omega) (by omega)
  unfold TabR
  rw [e0, e1, e2, e3]
  refine ⟨b0.trans (hw o (by omega) (by omega)).symm, b1.trans (hw (o + 1) (by omega) (by omega)).symm, b2, b3, fun c hc hb => ?_, fun k c hk hc h1 h2 => ?_, b6⟩
  · obtain ⟨u1, u2, u3⟩ := b4 c hc hb
    exact ⟨u1.trans (hw _ (by omega) (by omega)).symm, u2.trans (hw _ (by omega) (by omega)).symm, u3⟩
  · exact (b5 k c hk hc h1 h2).trans (hw _ (by omega) (by omega)).symm
/-- .. and carried to another place of the reference's rows -/
theorem TabR.mv {X X1 : Nat → Nat → Int32} {a a1 o o1 : Nat} {W W1 : Nat → Int32} (h : TabR X a W o) (h0 : X1 a1 0 = X a 0) (h1 : X1 a1 1 = X a 1) (h2 : ∀ j, j < 9 → X1 (a1 + 1) j = X (a + 1) j) (h3 : ∀ j, j < 9 → X1 (a1 + 2) j = X (a + 2) j) (h4 : ∀ j, j < 180 → X1 (a1 + 3) j = X (a + 3) j) (hw : ∀ j, j < 200 → W1 (o1 + j) = W (o + j)) : TabR X1 a1 W1 o1 := by
  obtain ⟨b0, b1, b2, b3, b4, b5, b6⟩ := h
  unfold TabR
  rw [h0, h1]
  refine ⟨b0.trans (hw 0 (by omega)).symm, b1.trans (hw 1 (by omega)).symm, b2, b3, fun c hc hb => ?_, fun k c hk hc q1 q2 => ?_, fun k c hk hc q => ?_⟩
  · obtain ⟨u1, u2, u3⟩ := b4 c hc hb
    have w1 := hw (2 + c) (by omega)
    have w2 := hw (11 + c) (by omega)
    rw [← Nat.add_assoc, ← Nat.add_assoc] at w1 w2
    rw [h2 c hc, h3 c hc]
    exact ⟨u1.trans w1.symm, u2.trans w2.symm, u3⟩
  · have w1 := hw (20 + (9 * k + c)) (by omega)
    rw [← Nat.add_assoc, ← Nat.add_assoc, ← Nat.add_assoc, ← Nat.add_assoc] at w1
    rw [h4 _ (by omega)]
    exact (b5 k c hk hc q1 q2).trans w1.symm
  · rw [h4 _ (by omega)]
    exact b6 k c hk hc q
theorem StR.mv {X X1 : Nat → Nat → Int32} {s L R s1 L1 R1 b b1 : Nat} {W W1 : Nat → Int32} (h : StR X s L R W b) (hp : ∀ (p q : Nat), (p = s + 1 ∧ q = s1 + 1) ∨ (p = L ∧ q = L1) ∨ (p = R ∧ q = R1) → X1 q 0 = X p 0 ∧ X1 q 1 = X p 1 ∧ (∀ j, j < 9 → X1 (q + 1) j = X (p + 1) j) ∧ (∀ j, j < 9 → X1 (q + 2) j = X (p + 2) j) ∧ (∀ j, j < 180 → X1 (q + 3) j = X (p + 3) j))
    (h3 : X1 s1 3 = X s 3) (h4 : X1 s1 4 = X s 4) (h5 : X1 s1 5 = X s 5) (h13 : ∀ j, j < 4 → X1 (s1 + 13) j = X (s + 13) j) (h14 : ∀ j, j < 4 → X1 (s1 + 14) j = X (s + 14) j) (h15 : ∀ j, j < 4 → X1 (s1 + 15) j = X (s + 15) j) (h16 : ∀ j, j < 316 → X1 (s1 + 16) j = X (s + 16) j) (hw : ∀ j, j < 931 → W1 (b1 + j) = W (b + j)) : StR X1 s1 L1 R1 W1 b1 := by
  obtain ⟨tL, tR, tB, lB, lL, lR, ⟨d, d1, d2, d3, d4⟩, ⟨p, p1, p2, p3, p4⟩, ⟨q, q1, q2, q3, q4⟩, cs⟩ := h
  obtain ⟨a0, a1, a2, a3, a4⟩ := hp _ _ (Or.inl ⟨rfl, rfl⟩)
  obtain ⟨l0, l1, l2, l3, l4⟩ := hp _ _ (Or.inr (Or.inl ⟨rfl, rfl⟩))
  obtain ⟨r0, r1, r2, r3, r4⟩ := hp _ _ (Or.inr (Or.inr ⟨rfl, rfl⟩))
  unfold StR
  rw [a0, l0, r0, h3, h4, h5]
  refine ⟨tL.mv l0 l1 l2 l3 l4 (fun j hj => ?_), tR.mv r0 r1 r2 r3 r4 (fun j hj => ?_), tB.mv a0 a1 a2 a3 a4 (fun j hj => ?_), lB, lL, lR, ⟨d, d1, d2, (hw 600 (by omega)).trans d3, fun i hi => ?_⟩, ⟨p, p1, p2, (hw 613 (by omega)).trans p3, p4⟩, ⟨q, q1, q2, (hw 614 (by omega)).trans q3, q4⟩, fun i hi => ?_⟩
  · have := hw (200 * 0 + j) (by omega); rw [← Nat.add_assoc, ← Nat.add_assoc] at this; exact this
  · have := hw (200 * 1 + j) (by omega); rw [← Nat.add_assoc, ← Nat.add_assoc] at this; exact this
  · have := hw (200 * 2 + j) (by omega); rw [← Nat.add_assoc, ← Nat.add_assoc] at this; exact this
  · obtain ⟨kd, f, r, c1, c2, c3, c4, c5, c6, c7, c8, c9, c10⟩ := d4 i hi
    have w1 := hw (601 + i) (by omega)
    have w2 := hw (605 + i) (by omega)
    have w3 := hw (609 + i) (by omega)
    rw [← Nat.add_assoc, ← Nat.add_assoc] at w1 w2 w3
    exact ⟨kd, f, r, c1, c2, c3, (h13 i (by omega)).trans c4, (h14 i (by omega)).trans c5, (h15 i (by omega)).trans c6, w1.trans c7, w2.trans c8, fun e => w3.trans (c9 e), c10⟩
  · have w1 := hw (615 + i) (by omega)
    rw [← Nat.add_assoc, ← Nat.add_assoc] at w1
    rw [h16 i hi]
    exact ⟨(cs i hi).1.trans w1.symm, (cs i hi).2⟩
theorem StR.fr {X X1 : Nat → Nat → Int32} {s L R b : Nat} {W W1 : Nat → Int32} (h : StR X s L R W b) (hLR : (L = s + 5 ∧ R = s + 9) ∨ (L = s + 9 ∧ R = s + 5)) (hx : ∀ q, s ≤ q → q ≤ s + 16 → X1 q = X q) (hw : ∀ j, j < 931 → W1 (b + j) = W (b + j)) : StR X1 s L R W1 b := by
  refine h.mv (fun p q hpq => ?_) ?_ ?_ ?_ ?_ ?_ ?_ ?_ hw
  · have : p = q ∧ s ≤ q ∧ q + 3 ≤ s + 16 := by omega
    obtain ⟨rfl, h1, h2⟩ := this
    rw [hx p (by omega) (by omega), hx (p + 1) (by omega) (by omega), hx (p + 2) (by omega) (by omega), hx (p + 3) (by omega) (by omega)]
    exact ⟨rfl, rfl, fun _ _ => rfl, fun _ _ => rfl, fun _ _ => rfl⟩
  · rw [hx s (by omega) (by omega)]
  · rw [hx s (by omega) (by omega)]
  · rw [hx s (by omega) (by omega)]
  · intro j _; rw [hx (s + 13) (by omega) (by omega)]
  · intro j _; rw [hx (s + 14) (by omega) (by omega)]
  · intro j _; rw [hx (s + 15) (by omega) (by omega)]
  · intro j _; rw [hx (s + 16) (by omega) (by omega)]
/-- the merged Table; cells at B and behind it aren't made yet -/
def TR (B : Nat) (f n t u o : Nat → Int32) (h k : Int32) (nm ty cl wh : Nat → Int32) : Prop :=
  f 0 = h ∧ f 1 = k ∧ low 9 h ∧ low 20 k ∧
  (∀ c, c < 9 → bt h c = true → n c = nm c ∧ t c = ty c ∧ ∃ q, q < 4 ∧ t c = nI q) ∧
  (∀ j c, j < 20 → c < 9 → 9 * j + c < B → bt k j = true → bt h c = true → u (9 * j + c) = cl (9 * j + c) ∧ o (9 * j + c) = wh (9 * j + c)) ∧
  (∀ j c, j < 20 → c < 9 → (bt k j = false ∨ bt h c = false ∨ B ≤ 9 * j + c) → u (9 * j + c) = nI 9999)
/-- the conflicts -/
def CF (n : Nat) (z : Int32) (i l r : Nat → Int32) (z' : Int32) (q : Nat → Int32) : Prop := z = nI n ∧ z' = nI n ∧ ∀ j, j < n → ∃ id, okI id ∧ i j = nI id ∧ q (5 * j) = f_X1_kindOf (nI id) ∧ q (5 * j + 1) = f_X1_firstOf (nI id) ∧ q (5 * j + 2) = f_X1_secondOf (nI id) ∧ l j = q (5 * j + 3) ∧ r j = q (5 * j + 4)
/-- what came up, P at most -/
def US (P : Nat → Prop) (w : Int32) (up ch : Nat → Int32) : Prop := w = nI (cntB (fun j => decide (ch j ≠ -(nI 1)) && decide (up j = nI 1)) 316) ∧ ∀ j, j < 316 → up j = nI 0 ∨ (up j = nI 1 ∧ P j)
/-- which columns of the sides the merged ones are -/
def SR (h Lh Rh : Int32) (cr so : Nat → Int32) : Prop := ∀ c, c < 9 → bt h c = true →
  (c < 5 → cr c = nI c ∧ so c = (if bt Lh c = true then nI c else -(nI 1)) ∧ so (9 + c) = (if bt Rh c = true then nI c else -(nI 1))) ∧
  (5 ≤ c → c < 7 → bt Lh c = true ∧ so c = nI c ∧ cr c = so (9 + c) ∧ (so (9 + c) = -(nI 1) ∨ so (9 + c) = nI 7 ∨ so (9 + c) = nI 8)) ∧
  (7 ≤ c → bt Rh c = true ∧ so c = -(nI 1) ∧ so (9 + c) = nI c ∧ cr c = nI c)
def MI (B : Nat) (P : Nat → Prop) (n : Nat) (ch : Nat → Int32) (Lh Rh : Int32) (X0 X : Mx) (g : Nat) (Y0 Y : Mx) (m : Nat) : Prop :=
  FrX X0 X g (g + 9) ∧ FrY Y0 Y m ∧ TR B (X.1 (g + 1)) (X.1 (g + 2)) (X.1 (g + 3)) (X.1 (g + 4)) (X.1 (g + 5)) (Y.1 m 20) (Y.1 m 21) (Y.1 (m + 5)) (Y.1 (m + 6)) (Y.1 (m + 7)) (Y.1 (m + 8)) ∧
  CF n (X.1 g 2) (X.1 (g + 6)) (X.1 (g + 7)) (X.1 (g + 8)) (Y.1 m 22) (Y.1 (m + 10)) ∧ US P (X.1 g 3) (Y.1 (m + 11)) ch ∧ SR (Y.1 m 20) Lh Rh (X.1 (g + 9)) (Y.1 (m + 9))
theorem US.mono {P Q : Nat → Prop} {w : Int32} {up ch : Nat → Int32} (h : US P w up ch) (hPQ : ∀ j, j < 316 → P j → Q j) : US Q w up ch := ⟨h.1, fun j hj => (h.2 j hj).elim Or.inl (fun q => Or.inr ⟨q.1, hPQ j hj q.2⟩)⟩
theorem MI.mono {B n g m : Nat} {P Q : Nat → Prop} {ch : Nat → Int32} {Lh Rh : Int32} {X0 X Y0 Y : Mx} (h : MI B P n ch Lh Rh X0 X g Y0 Y m) (hPQ : ∀ j, j < 316 → P j → Q j) : MI B Q n ch Lh Rh X0 X g Y0 Y m := ⟨h.1, h.2.1, h.2.2.1, h.2.2.2.1, h.2.2.2.2.1.mono hPQ, h.2.2.2.2.2⟩
theorem US.u {P : Nat → Prop} {w : Int32} {up up1 ch : Nat → Int32} {id : Nat} (h : US P w up ch) (hid : id < 316) (hP : ¬ P id) (hv : ch id ≠ -(nI 1)) (hup : ∀ j, up1 j = if j = id then nI 1 else up j) : US (fun j => P j ∨ j = id) (w + nI 1) up1 ch := by
  have h0 : up id = nI 0 := (h.2 id hid).elim (fun q => q) (fun q => absurd q.2 hP)
  refine ⟨?_, fun j hj => ?_⟩
  · rw [h.1, nI_add]
    refine congrArg nI (cntB_upd (k := id) hid (fun i hi hne => ?_) ?_ ?_).symm
    · rw [hup i, if_neg hne]
    · rw [h0]; simp [show (nI 0 = nI 1) = False from eq_false (by decide)]
    · rw [hup id, if_pos rfl]; simp [hv]
  · rw [hup j]
    by_cases e : j = id
    · rw [if_pos e]; exact Or.inr ⟨rfl, Or.inr e⟩
    · rw [if_neg e]; exact (h.2 j hj).elim Or.inl (fun q => Or.inr ⟨q.1, Or.inl q.2⟩)
theorem US.c {P : Nat → Prop} {w : Int32} {up up1 ch : Nat → Int32} {id : Nat} (h : US P w up ch) (hv : ch id = -(nI 1)) (hup : ∀ j, up1 j = if j = id then nI 1 else up j) : US (fun j => P j ∨ j = id) w up1 ch := by
  refine ⟨?_, fun j hj => ?_⟩
  · rw [h.1]
    refine congrArg nI (cntB_congr (fun i hi => ?_))
    rw [hup i]
    by_cases e : i = id
    · subst e; simp [hv]
    · rw [if_neg e]
  · rw [hup j]
    by_cases e : j = id
    · rw [if_pos e]; exact Or.inr ⟨rfl, Or.inr e⟩
    · rw [if_neg e]; exact (h.2 j hj).elim Or.inl (fun q => Or.inr ⟨q.1, Or.inl q.2⟩)
theorem s_ask_u {σ : Sh} {X : Mx} {g s L R id : Nat} {l r : Int32} (hg : mgOK σ g) (hs : stOK σ s L R) (hid : id < 316) (hv : X.1 (s + 16) id ≠ -(nI 1)) : f_X2_ask σ X g s (nI id) l r = some (X.1 (s + 16) id, sI X g 3 (X.1 g 3 + nI 1)) := by
  obtain ⟨g0, g1, g2, g3, g4, g5, g6, gT, k5, l5, k6, l6, k7, l7, k8, l8, k9, l9⟩ := hg
  obtain ⟨s0, s1, s2, s3, s4, s5, s6, s7, s8, s9, s10, s11, s12, s13, s14, s15, s16, s17, s18⟩ := hs
  obtain ⟨s17, s19⟩ := s17
  simp (disch := first | assumption | omega) only [f_X2_ask, litM, grd_t, grd_T, ldI_t, stI_t, ldA_t, stA_t, lenA_t, n_lt_t, n_lt_f, n_le_t, n_le_f, n_eq_t, n_eq_f, if_true, if_false, nI_add, nI_mul, bt_d, bI_z, bI_o, Option.bind_some, Bool.true_eq_false, Bool.false_eq_true, ldR, eq_self, if_true, Option.bind_some, s0, s7, g0, hv]
theorem s_ask_c {σ : Sh} {X : Mx} {g s L R id n : Nat} {l r : Int32} (hg : mgOK σ g) (hs : stOK σ s L R) (hid : id < 316) (hv : X.1 (s + 16) id = -(nI 1)) (hn : X.1 g 2 = nI n) (hn2 : n < 316) : f_X2_ask σ X g s (nI id) l r = some (-(nI 1), sI (sI (sI (sI X (g + 6) n (nI id)) (g + 7) n l) (g + 8) n r) g 2 (nI (n + 1))) := by
  obtain ⟨g0, g1, g2, g3, g4, g5, g6, gT, k5, l5, k6, l6, k7, l7, k8, l8, k9, l9⟩ := hg
  obtain ⟨s0, s1, s2, s3, s4, s5, s6, s7, s8, s9, s10, s11, s12, s13, s14, s15, s16, s17, s18⟩ := hs
  obtain ⟨s17, s19⟩ := s17
  simp (disch := first | assumption | omega) only [f_X2_ask, litM, grd_t, grd_T, ldI_t, stI_t, ldA_t, stA_t, lenA_t, n_lt_t, n_lt_f, n_le_t, n_le_f, n_eq_t, n_eq_f, if_true, if_false, nI_add, nI_mul, bt_d, bI_z, bI_o, Option.bind_some, Bool.true_eq_false, Bool.false_eq_true, ldR, eq_self, if_true, Option.bind_some, s0, s7, g0, g3, g4, g5, hv, hn, sI_na]
theorem s_up_u {τ : Sh} {Y : Mx} {m b id : Nat} {kd a c l r : Int32} (hm : mdOK τ m) (hb : b ≤ 931) (hid : id < 316) (e2 : f_X10_choiceAt kd a c = nI id) (hv : Y.1 (m + 3) (b + 615 + id) ≠ -(nI 1)) : f_X10_comesUp τ Y m (nI b) kd a c l r = some (Y.1 (m + 3) (b + 615 + id), sI Y (m + 11) id (nI 1)) := by
  obtain ⟨m0, m1, m2, m3, m4, m5, m6, m7, m8, m9, m10, m11, m12, m13, m14, m15, m16, m17, mq1, mq2, mq3, mq4, mq5, mq6, mq7, mq8, mq9, mq10, mq11, mq12, mq13, mq14, mq15, mq16, mq17, mn1, mn2, mn3, mn4, mn5, mn6, mn7, mn8, mn9, mn10, mn11, mn12, mn13, mn14, mn15, mn16, mn17⟩ := hm
  simp (disch := first | assumption | omega) only [f_X10_comesUp, litM, grd_t, grd_T, ldI_t, stI_t, ldA_t, stA_t, lenA_t, n_lt_t, n_lt_f, n_le_t, n_le_f, n_eq_t, n_eq_f, if_true, if_false, nI_add, nI_mul, bt_d, bI_z, bI_o, Option.bind_some, Bool.true_eq_false, Bool.false_eq_true, ldR, eq_self, if_true, Option.bind_some, m0, m11, m3, e2, hv, sI_na]
theorem s_up_c {τ : Sh} {Y : Mx} {m b id n : Nat} {kd a c l r : Int32} (hm : mdOK τ m) (hb : b ≤ 931) (hid : id < 316) (e2 : f_X10_choiceAt kd a c = nI id) (hv : Y.1 (m + 3) (b + 615 + id) = -(nI 1)) (hn : Y.1 m 22 = nI n) (hn2 : n < 316) : f_X10_comesUp τ Y m (nI b) kd a c l r = some (-(nI 1), sI (sI (sI (sI (sI (sI (sI Y (m + 11) id (nI 1)) (m + 10) (5 * n) kd) (m + 10) (5 * n + 1) a) (m + 10) (5 * n + 2) c) (m + 10) (5 * n + 3) l) (m + 10) (5 * n + 4) r) m 22 (nI (n + 1))) := by
  obtain ⟨m0, m1, m2, m3, m4, m5, m6, m7, m8, m9, m10, m11, m12, m13, m14, m15, m16, m17, mq1, mq2, mq3, mq4, mq5, mq6, mq7, mq8, mq9, mq10, mq11, mq12, mq13, mq14, mq15, mq16, mq17, mn1, mn2, mn3, mn4, mn5, mn6, mn7, mn8, mn9, mn10, mn11, mn12, mn13, mn14, mn15, mn16, mn17⟩ := hm
  simp (disch := first | assumption | omega) only [f_X10_comesUp, litM, grd_t, grd_T, ldI_t, stI_t, ldA_t, stA_t, lenA_t, n_lt_t, n_lt_f, n_le_t, n_le_f, n_eq_t, n_eq_f, if_true, if_false, nI_add, nI_mul, bt_d, bI_z, bI_o, Option.bind_some, Bool.true_eq_false, Bool.false_eq_true, ldR, eq_self, if_true, Option.bind_some, m0, m10, m11, m3, e2, hv, hn, sI_na]
/-- what an asking leaves as it was -/
def AskF (X X1 : Mx) (g : Nat) (Y Y1 : Mx) (m : Nat) : Prop := X1.2 = X.2 ∧ (∀ q, q ≠ g → q ≠ g + 6 → q ≠ g + 7 → q ≠ g + 8 → X1.1 q = X.1 q) ∧ Y1.2 = Y.2 ∧ (∀ q, q ≠ m → q ≠ m + 10 → q ≠ m + 11 → Y1.1 q = Y.1 q) ∧ (∀ j, j ≠ 22 → Y1.1 m j = Y.1 m j)
theorem MI.ask {B n n1 g m : Nat} {P Q : Nat → Prop} {ch : Nat → Int32} {Lh Rh : Int32} {X0 X X1 Y0 Y Y1 : Mx} (h : MI B P n ch Lh Rh X0 X g Y0 Y m) (ha : AskF X X1 g Y Y1 m) (hc : CF n1 (X1.1 g 2) (X1.1 (g + 6)) (X1.1 (g + 7)) (X1.1 (g + 8)) (Y1.1 m 22) (Y1.1 (m + 10))) (hu : US Q (X1.1 g 3) (Y1.1 (m + 11)) ch) : MI B Q n1 ch Lh Rh X0 X1 g Y0 Y1 m := by
  obtain ⟨f1, f2, t, -, -, sr⟩ := h
  obtain ⟨a1, a2, a3, a4, a5⟩ := ha
  refine ⟨⟨a1.trans f1.1, fun q hq => (a2 q (by omega) (by omega) (by omega) (by omega)).trans (f1.2 q hq)⟩, ⟨a3.trans f2.1, fun q h1 h2 => (a4 q h1 (by omega) (by omega)).trans (f2.2.1 q h1 h2), fun j h1 h2 h3 => (a5 j h3).trans (f2.2.2 j h1 h2 h3)⟩, ?_, hc, hu, ?_⟩
  · rw [a2 (g + 1) (by omega) (by omega) (by omega) (by omega), a2 (g + 2) (by omega) (by omega) (by omega) (by omega), a2 (g + 3) (by omega) (by omega) (by omega) (by omega), a2 (g + 4) (by omega) (by omega) (by omega) (by omega), a2 (g + 5) (by omega) (by omega) (by omega) (by omega), a5 20 (by omega), a5 21 (by omega), a4 (m + 5) (by omega) (by omega) (by omega), a4 (m + 6) (by omega) (by omega) (by omega), a4 (m + 7) (by omega) (by omega) (by omega), a4 (m + 8) (by omega) (by omega) (by omega)]
    exact t
  · rw [a2 (g + 9) (by omega) (by omega) (by omega) (by omega), a5 20 (by omega), a4 (m + 9) (by omega) (by omega) (by omega)]
    exact sr
/-- the number of what comes up, as both have it -/
def idR (kd a c : Int32) (id : Nat) : Prop := f_X1_idOf kd a c = nI id ∧ f_X10_choiceAt kd a c = nI id ∧ f_X1_kindOf (nI id) = kd ∧ f_X1_firstOf (nI id) = a ∧ f_X1_secondOf (nI id) = c
theorem id_col : ∀ k, k < 4 → ∀ c, c < 9 → idR (nI k) (nI c) (nI 0) (9 * k + c) := by
  unfold idR; decide +kernel
theorem id_row : ∀ k, k < 20 → idR (nI 4) (nI k) (nI 0) (36 + k) := by
  unfold idR; decide +kernel
theorem id_cell : ∀ k, k < 20 → ∀ c, c < 9 → idR (nI 5) (nI k) (nI c) (56 + (9 * k + c)) := by
  unfold idR; decide +kernel
theorem id_dem : ∀ d, d < 4 → ∀ k, k < 20 → idR (nI 6) (nI d) (nI k) (236 + (20 * d + k)) := by
  unfold idR; decide +kernel
theorem ask_rel {σ τ : Sh} {B n g m s L R b id : Nat} {P : Nat → Prop} {ch : Nat → Int32} {Lh Rh kd a c l r : Int32} {X0 X Y0 Y : Mx} (hg : mgOK σ g) (hs : stOK σ s L R) (hm : mdOK τ m) (hb : b ≤ 931) (hid : okI id) (hi : idR kd a c id) (hP : ¬ P id) (hn : n < 316) (hch : ch = X.1 (s + 16)) (hc : X.1 (s + 16) id = Y.1 (m + 3) (b + 615 + id)) (h : MI B P n ch Lh Rh X0 X g Y0 Y m) :
    ∃ X1 Y1 n1, f_X2_ask σ X g s (f_X1_idOf kd a c) l r = some (X.1 (s + 16) id, X1) ∧ f_X10_comesUp τ Y m (nI b) kd a c l r = some (X.1 (s + 16) id, Y1) ∧ n1 ≤ n + 1 ∧ MI B (fun j => P j ∨ j = id) n1 ch Lh Rh X0 X1 g Y0 Y1 m ∧ AskF X X1 g Y Y1 m := by
  obtain ⟨i1, i2, i3, i4, i5⟩ := hi
  have hMI := h
  obtain ⟨f1, f2, t, ⟨c1, c2, c3⟩, u, sr⟩ := h
  rw [i1]
  by_cases hv : X.1 (s + 16) id = -(nI 1)
  · have hv2 : Y.1 (m + 3) (b + 615 + id) = -(nI 1) := hc.symm.trans hv
    have hA : AskF X (sI (sI (sI (sI X (g + 6) n (nI id)) (g + 7) n l) (g + 8) n r) g 2 (nI (n + 1))) g Y (sI (sI (sI (sI (sI (sI (sI Y (m + 11) id (nI 1)) (m + 10) (5 * n) kd) (m + 10) (5 * n + 1) a) (m + 10) (5 * n + 2) c) (m + 10) (5 * n + 3) l) (m + 10) (5 * n + 4) r) m 22 (nI (n + 1))) m :=
      ⟨rfl, fun q h1 h2 h3 h4 => by rw [sI_ne h1, sI_ne h4, sI_ne h3, sI_ne h2], rfl, fun q h1 h2 h3 => by rw [sI_ne h1, sI_ne h2, sI_ne h2, sI_ne h2, sI_ne h2, sI_ne h2, sI_ne h3], fun j hj => by simp (disch := first | assumption | omega) only [sI_na, sI_nk]⟩
    refine ⟨_, _, n + 1, by rw [hv]; exact s_ask_c hg hs hid.1 hv c1 hn, by rw [hv]; exact s_up_c hm hb hid.1 i2 hv2 c2 hn, Nat.le_refl _, hMI.ask hA ⟨sI_eq, sI_eq, fun j hj => ?_⟩ ?_, hA⟩
    · by_cases e : j = n
      · subst e
        refine ⟨id, hid, ?_, ?_, ?_, ?_, ?_, ?_⟩ <;> simp (disch := first | assumption | omega) only [sI_na, sI_nk, sI_eq, i3, i4, i5]
      · obtain ⟨w, w1, w2, w3, w4, w5, w6, w7⟩ := c3 j (by omega)
        refine ⟨w, w1, ?_, ?_, ?_, ?_, ?_, ?_⟩ <;> simp (disch := first | assumption | omega) only [sI_na, sI_nk, w2, w3, w4, w5, w6, w7]
    · have e3 : (sI (sI (sI (sI X (g + 6) n (nI id)) (g + 7) n l) (g + 8) n r) g 2 (nI (n + 1))).1 g 3 = X.1 g 3 := by simp (disch := first | assumption | omega) only [sI_na, sI_nk]
      rw [e3]
      refine u.c (id := id) (by rw [hch]; exact hv) (fun j => ?_)
      simp (disch := first | assumption | omega) only [sI_na]
      by_cases e : j = id
      · rw [if_pos e, e, sI_eq]
      · rw [if_neg e, sI_nk e]
  · have hv2 : Y.1 (m + 3) (b + 615 + id) ≠ -(nI 1) := fun q => hv (hc.trans q)
    have hA : AskF X (sI X g 3 (X.1 g 3 + nI 1)) g Y (sI Y (m + 11) id (nI 1)) m :=
      ⟨rfl, fun q h1 h2 h3 h4 => sI_ne h1, rfl, fun q h1 h2 h3 => sI_ne h3, fun j hj => sI_na (by omega)⟩
    refine ⟨_, _, n, s_ask_u hg hs hid.1 hv, by rw [hc]; exact s_up_u hm hb hid.1 i2 hv2, Nat.le_succ _, hMI.ask hA ⟨?_, ?_, ?_⟩ ?_, hA⟩
    · rw [sI_nk (by omega)]; exact c1
    · rw [sI_na (by omega)]; exact c2
    · rw [sI_ne (by omega), sI_ne (by omega), sI_ne (by omega), sI_ne (by omega)]; exact c3
    · rw [sI_eq]
      refine u.u hid.1 hP (by rw [hch]; exact hv) (fun j => ?_)
      by_cases e : j = id
      · rw [if_pos e, e, sI_eq]
      · rw [if_neg e, sI_nk e]
