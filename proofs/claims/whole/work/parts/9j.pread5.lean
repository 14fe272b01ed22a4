/-! ===== reading: before and behind a fault ===== -/
def TkF (X X1 : Mx) (tp : Nat) : Prop := X1.2 = X.2 ∧ (∀ r, r ≠ tp → X1.1 r = X.1 r) ∧ (∀ j, j ≠ 3 → j ≠ 4 → j ≠ 6 → j ≠ 7 → j ≠ 8 → X1.1 tp j = X.1 tp j)
def MkF (Y Y1 : Mx) (m : Nat) : Prop := (∀ r, r ≠ m → Y1.2 r = Y.2 r) ∧ (∀ r, r ≠ m → Y1.1 r = Y.1 r) ∧ (∀ j, j ≠ 3 → j ≠ 4 → (j < 7 ∨ 12 < j) → Y1.1 m j = Y.1 m j)
theorem TkF.refl {X : Mx} {tp : Nat} : TkF X X tp := ⟨rfl, fun _ _ => rfl, fun _ _ _ _ _ _ => rfl⟩
theorem MkF.refl {X : Mx} {m : Nat} : MkF X X m := ⟨fun _ _ => rfl, fun _ _ => rfl, fun _ _ _ _ => rfl⟩
theorem TkF.trans {X Y Z : Mx} {tp : Nat} (h : TkF X Y tp) (k : TkF Y Z tp) : TkF X Z tp := ⟨k.1.trans h.1, fun r hr => (k.2.1 r hr).trans (h.2.1 r hr), fun j a b c d e => (k.2.2 j a b c d e).trans (h.2.2 j a b c d e)⟩
theorem MkF.trans {X Y Z : Mx} {m : Nat} (h : MkF X Y m) (k : MkF Y Z m) : MkF X Z m := ⟨fun r hr => (k.1 r hr).trans (h.1 r hr), fun r hr => (k.2.1 r hr).trans (h.2.1 r hr), fun j a b c => (k.2.2 j a b c).trans (h.2.2 j a b c)⟩
theorem StF.tk {X X1 : Mx} {tp : Nat} (h : StF X X1 tp) : TkF X X1 tp := ⟨h.1, h.2.1, fun j _ _ a b c => h.2.2 j a b c⟩
theorem GoF.mk {X X1 : Mx} {m : Nat} (h : GoF X X1 m) : MkF X X1 m := ⟨h.1, h.2.1, fun j _ _ a => h.2.2 j a⟩
def RdC (X : Mx) (tp e : Nat) (β : Nat → Nat) : Prop := e ≤ 700 ∧ (∀ j, j < e → β j < 256 ∧ X.1 (tp + 1) j = sx (β j)) ∧ X.1 tp 5 = nI e ∧ ∃ st be, st ≤ be ∧ be ≤ e ∧ X.1 tp 7 = nI st ∧ X.1 tp 8 = nI be ∧ (X.1 tp 6 = nI 0 ∨ (st < be ∧ (X.1 tp 6 = nI 1 ∨ X.1 tp 6 = nI 2 ∨ X.1 tp 6 = nI 3)))
def GdR (X Y : Mx) (tp m e : Nat) (β : Nat → Nat) (st be : Nat) : Prop := BR X.1 Y.1 tp m e β ∧ (X.1 tp 5 = nI e ∧ X.1 tp 3 = -(nI 1) ∧ Y.1 m 4 = -(nI 1)) ∧ Y.1 m 6 = nI e ∧ X.1 tp 4 = nI 0 ∧ Y.1 m 3 = nI 0 ∧ TokR X Y tp m e β st be
def DdR (X Y : Mx) (tp m e : Nat) (β : Nat → Nat) : Prop := RdC X tp e β ∧ ∃ f, 1 ≤ f ∧ f ≤ 6 ∧ X.1 tp 4 = nI f ∧ Y.1 m 3 = nI f ∧ X.1 tp 3 = Y.1 m 4
theorem GdR.rd {X Y : Mx} {tp m e st be : Nat} {β : Nat → Nat} (h : GdR X Y tp m e β st be) : RdC X tp e β := by
  obtain ⟨h1, h2, h3, h4, h5, r1, r2, r3, r4, r5, r6, r7, r8⟩ := h
  refine ⟨h1.1, fun j hj => ⟨(h1.2 j hj).1, (h1.2 j hj).2.2⟩, h2.1, st, be, r1, r2, r3, r4, ?_⟩
  rcases r8 with ⟨-, a, -⟩ | ⟨a, b, -⟩ | ⟨a, b, -⟩ | ⟨a, b, -⟩
  · exact Or.inl a
  · exact Or.inr ⟨a, Or.inl b⟩
  · exact Or.inr ⟨a, Or.inr (Or.inl b)⟩
  · exact Or.inr ⟨by omega, Or.inr (Or.inr b)⟩
/-- what a dead reading keeps -/
def CD (X X1 : Mx) (tp e : Nat) (β : Nat → Nat) : Prop := TkF X X1 tp ∧ X1.1 tp 3 = X.1 tp 3 ∧ X1.1 tp 4 = X.1 tp 4 ∧ RdC X1 tp e β
theorem CD.refl {X : Mx} {tp e : Nat} {β : Nat → Nat} (h : RdC X tp e β) : CD X X tp e β := ⟨TkF.refl, rfl, rfl, h⟩
theorem CD.trans {X Y Z : Mx} {tp e : Nat} {β : Nat → Nat} (h : CD X Y tp e β) (k : CD Y Z tp e β) : CD X Z tp e β := ⟨h.1.trans k.1, k.2.1.trans h.2.1, k.2.2.1.trans h.2.2.1, k.2.2.2⟩
theorem DdR.cd {X X1 Y : Mx} {tp m e : Nat} {β : Nat → Nat} (h : DdR X Y tp m e β) (k : CD X X1 tp e β) : DdR X1 Y tp m e β := by
  obtain ⟨h1, f, h2, h3, h4, h5, h6⟩ := h
  exact ⟨k.2.2.2, f, h2, h3, k.2.2.1.trans h4, h5, k.2.1.trans h6⟩
theorem nI_nz {f : Nat} (h : 1 ≤ f) (h2 : f ≤ 6) : ¬ nI f = nI 0 := nI_ne (by omega) (by omega) (by omega)
theorem step_g {σ τ : Sh} {X Y : Mx} {tp m e st be : Nat} {β : Nat → Nat} (hp : tpOK σ tp) (hm : mdOK τ m) (h : GdR X Y tp m e β st be) : ∃ st1 be1 X1 Y1, be ≤ st1 ∧ f_X7_step σ X tp = some X1 ∧ f_X10_goes τ Y m = some Y1 ∧ StF X X1 tp ∧ GoF Y Y1 m ∧ GdR X1 Y1 tp m e β st1 be1 := by
  obtain ⟨h1, h2, h3, h4, h5, r1, r2, r3, r4, r5, r6, r7, r8⟩ := h
  obtain ⟨st1, be1, X1, Y1, s1, s2, s3, s4, s5, s6⟩ := step_both hp hm h1 h2.1 r4 h3 r6 r2
  exact ⟨st1, be1, X1, Y1, s1, s2, s3, s4, s5, h1.fr (s4.2.1 _ (by omega)) (s5.2.1 _ (by omega)), ⟨by rw [s4.2.2 5 (by omega) (by omega) (by omega)]; exact h2.1, by rw [s4.2.2 3 (by omega) (by omega) (by omega)]; exact h2.2.1, by rw [s5.2.2 4 (by omega)]; exact h2.2.2⟩, by rw [s5.2.2 6 (by omega)]; exact h3, by rw [s4.2.2 4 (by omega) (by omega) (by omega)]; exact h4, by rw [s5.2.2 3 (by omega)]; exact h5, s6⟩
theorem c_step {σ τ : Sh} {X : Mx} {tp m e : Nat} {β : Nat → Nat} (hp : tpOK σ tp) (hm : mdOK τ m) (h : RdC X tp e β) : ∃ X1, f_X7_step σ X tp = some X1 ∧ CD X X1 tp e β := by
  obtain ⟨he, hb, h5, st, be, r1, r2, r3, r4, -⟩ := h
  obtain ⟨Y, hY⟩ : ∃ Y : Mx, Y = ((fun r j => if r = m + 1 then nI (β j) else if j = 6 then nI e else nI be), X.2) := ⟨_, rfl⟩
  have yb : ∀ j, Y.1 (m + 1) j = nI (β j) := fun j => by rw [hY]; exact if_pos rfl
  have y6 : Y.1 m 6 = nI e := by rw [hY]; show (if m = m + 1 then _ else if 6 = 6 then _ else _) = _; rw [if_neg (by omega), if_pos rfl]
  have y7 : Y.1 m 7 = nI be := by rw [hY]; show (if m = m + 1 then _ else if 7 = 6 then _ else _) = _; rw [if_neg (by omega), if_neg (by omega)]
  obtain ⟨st1, be1, X1, Y1, s1, s2, s3, s4, s5, s6⟩ := step_both (X := X) (Y := Y) hp hm ⟨he, fun j hj => ⟨(hb j hj).1, yb j, (hb j hj).2⟩⟩ h5 r4 y6 y7 r2
  refine ⟨X1, s2, s4.tk, s4.2.2 3 (by omega) (by omega) (by omega), s4.2.2 4 (by omega) (by omega) (by omega), he, fun j hj => by rw [s4.2.1 _ (by omega)]; exact hb j hj, by rw [s4.2.2 5 (by omega) (by omega) (by omega)]; exact h5, st1, be1, s6.1, s6.2.1, s6.2.2.1, s6.2.2.2.1, ?_⟩
  rcases s6.2.2.2.2.2.2.2 with ⟨-, a, -⟩ | ⟨a, b, -⟩ | ⟨a, b, -⟩ | ⟨a, b, -⟩
  · exact Or.inl a
  · exact Or.inr ⟨a, Or.inl b⟩
  · exact Or.inr ⟨a, Or.inr (Or.inl b)⟩
  · exact Or.inr ⟨by omega, Or.inr (Or.inr b)⟩
theorem c_fail_d {σ : Sh} {X : Mx} {tp : Nat} {x y : Int32} (hp : tpOK σ tp) (h : ¬ X.1 tp 4 = nI 0) : f_X7_fail σ X tp x y = some (-(nI 1), X) := by
  have t0 := hp.1
  unfold f_X7_fail
  simp only [litM]
  rw [grd_t t0, ldI_t t0, if_neg h]
theorem c_fail_g {σ : Sh} {X : Mx} {tp : Nat} {x y : Int32} (hp : tpOK σ tp) (h : X.1 tp 4 = nI 0) : f_X7_fail σ X tp x y = some (-(nI 1), sI (sI X tp 4 x) tp 3 y) := by
  have t0 := hp.1
  unfold f_X7_fail
  simp only [litM]
  rw [grd_t t0, ldI_t t0, if_pos h, stI_t t0, stI_t t0]
theorem m_wrong_g {τ : Sh} {Y : Mx} {m : Nat} {x : Int32} (hm : mdOK τ m) (h : Y.1 m 3 = nI 0) : f_X10_wrong τ Y m x = some (sI (sI Y m 3 x) m 4 (Y.1 m 9)) := by
  have m0 := hm.1
  unfold f_X10_wrong
  simp only [litM]
  rw [grd_t m0, ldI_t m0, if_pos h, stI_t m0, ldI_t m0, sI_nk (by omega), stI_t m0]
theorem m_wrong_d {τ : Sh} {Y : Mx} {m : Nat} {x : Int32} (hm : mdOK τ m) (h : ¬ Y.1 m 3 = nI 0) : f_X10_wrong τ Y m x = some Y := by
  have m0 := hm.1
  unfold f_X10_wrong
  simp only [litM]
  rw [grd_t m0, ldI_t m0, if_neg h]
theorem m_good {τ : Sh} {Y : Mx} {m : Nat} (hm : mdOK τ m) : f_X10_isGood τ Y m = some (bI (decide (Y.1 m 3 = nI 0))) := by
  have m0 := hm.1
  unfold f_X10_isGood
  simp only [litM]
  rw [grd_t m0, ldI_t m0]
  by_cases h : Y.1 m 3 = nI 0
  · rw [if_pos h, decide_eq_true h]; rfl
  · rw [if_neg h, decide_eq_false h]; rfl
theorem m_good_t {τ : Sh} {Y : Mx} {m : Nat} (hm : mdOK τ m) (h : Y.1 m 3 = nI 0) : f_X10_isGood τ Y m = some (nI 1) := by rw [m_good hm, decide_eq_true h]; rfl
theorem m_good_f {τ : Sh} {Y : Mx} {m : Nat} (hm : mdOK τ m) (h : ¬ Y.1 m 3 = nI 0) : f_X10_isGood τ Y m = some (nI 0) := by rw [m_good hm, decide_eq_false h]; rfl
theorem DdR.nx {X Y : Mx} {tp m e : Nat} {β : Nat → Nat} (h : DdR X Y tp m e β) : ¬ X.1 tp 4 = nI 0 := by
  obtain ⟨-, f, h2, h3, h4, -, -⟩ := h
  rw [h4]; exact nI_nz h2 h3
theorem DdR.ny {X Y : Mx} {tp m e : Nat} {β : Nat → Nat} (h : DdR X Y tp m e β) : ¬ Y.1 m 3 = nI 0 := by
  obtain ⟨-, f, h2, h3, -, h4, -⟩ := h
  rw [h4]; exact nI_nz h2 h3
/-- a fault found by both, at the place p -/
theorem GdR.die {X Y : Mx} {tp m e st be f : Nat} {β : Nat → Nat} {p : Int32} (h : RdC X tp e β) (h1 : 1 ≤ f) (h2 : f ≤ 6) : DdR (sI (sI X tp 4 (nI f)) tp 3 p) (sI (sI Y m 3 (nI f)) m 4 p) tp m e β := by
  obtain ⟨he, hb, h5, st, be, r1, r2, r3, r4, r5⟩ := h
  refine ⟨⟨he, fun j hj => by rw [sI_na (by omega), sI_na (by omega)]; exact hb j hj, by rw [sI_nk (by omega), sI_nk (by omega)]; exact h5, st, be, r1, r2, by rw [sI_nk (by omega), sI_nk (by omega)]; exact r3, by rw [sI_nk (by omega), sI_nk (by omega)]; exact r4, by rw [sI_nk (by omega), sI_nk (by omega)]; exact r5⟩, f, h1, h2, by rw [sI_nk (by omega), sI_eq], by rw [sI_nk (by omega), sI_eq], by rw [sI_eq, sI_eq]⟩
theorem TkF.die {X : Mx} {tp : Nat} {x y : Int32} : TkF X (sI (sI X tp 4 x) tp 3 y) tp := ⟨rfl, fun r hr => by rw [sI_ne hr, sI_ne hr], fun j a b c d e => by rw [sI_nk a, sI_nk b]⟩
theorem MkF.die {Y : Mx} {m : Nat} {x y : Int32} : MkF Y (sI (sI Y m 3 x) m 4 y) m := ⟨fun _ _ => rfl, fun r hr => by rw [sI_ne hr, sI_ne hr], fun j a b c => by rw [sI_nk b, sI_nk a]⟩
/-- a fault at the token: class and reference -/
theorem die_both {σ τ : Sh} {X Y : Mx} {tp m e st be f : Nat} {β : Nat → Nat} (hp : tpOK σ tp) (hm : mdOK τ m) (h : GdR X Y tp m e β st be) (h1 : 1 ≤ f) (h2 : f ≤ 6) : ∃ Xd Yd, f_X7_fail σ X tp (nI f) (X.1 tp 7) = some (-(nI 1), Xd) ∧ f_X10_wrong τ Y m (nI f) = some Yd ∧ DdR Xd Yd tp m e β ∧ TkF X Xd tp ∧ MkF Y Yd m := by
  refine ⟨sI (sI X tp 4 (nI f)) tp 3 (X.1 tp 7), sI (sI Y m 3 (nI f)) m 4 (Y.1 m 9), c_fail_g hp h.2.2.2.1, m_wrong_g hm h.2.2.2.2.1, ?_, TkF.die, MkF.die⟩
  rw [h.2.2.2.2.2.2.2.1, h.2.2.2.2.2.2.2.2.2.1]
  exact GdR.die (st := st) (be := be) h.rd h1 h2
/-- all that may come of a piece that is read by both: it goes on, or a fault -/
def Ok2 (X Y : Mx) (tp m e : Nat) (β : Nat → Nat) (be : Nat) (X1 Y1 : Mx) : Prop := TkF X X1 tp ∧ MkF Y Y1 m ∧ ∃ st1 be1, be ≤ st1 ∧ GdR X1 Y1 tp m e β st1 be1
def No2 (X Y : Mx) (tp m e : Nat) (β : Nat → Nat) (X1 Y1 : Mx) : Prop := TkF X X1 tp ∧ MkF Y Y1 m ∧ DdR X1 Y1 tp m e β
theorem step_ok {σ τ : Sh} {X Y : Mx} {tp m e st be : Nat} {β : Nat → Nat} (hp : tpOK σ tp) (hm : mdOK τ m) (h : GdR X Y tp m e β st be) : ∃ X1 Y1, f_X7_step σ X tp = some X1 ∧ f_X10_goes τ Y m = some Y1 ∧ Ok2 X Y tp m e β be X1 Y1 := by
  obtain ⟨st1, be1, X1, Y1, h1, h2, h3, h4, h5, h6⟩ := step_g hp hm h
  exact ⟨X1, Y1, h2, h3, h4.tk, h5.mk, st1, be1, h1, h6⟩
theorem die_no {σ τ : Sh} {X Y : Mx} {tp m e st be f : Nat} {β : Nat → Nat} (hp : tpOK σ tp) (hm : mdOK τ m) (h : GdR X Y tp m e β st be) (h1 : 1 ≤ f) (h2 : f ≤ 6) : ∃ Xd Yd, f_X7_fail σ X tp (nI f) (X.1 tp 7) = some (-(nI 1), Xd) ∧ f_X10_wrong τ Y m (nI f) = some Yd ∧ No2 X Y tp m e β Xd Yd := by
  obtain ⟨Xd, Yd, a, b, c, d, e⟩ := die_both hp hm h h1 h2
  exact ⟨Xd, Yd, a, b, d, e, c⟩
