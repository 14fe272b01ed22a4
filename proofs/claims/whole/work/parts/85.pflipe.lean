/-! ===== flip: the class's State changed about ===== -/
theorem c_sides {σ : Sh} {X : Mx} {s L R z : Nat} (hs : stOK σ s L R) (lowL : low 9 (X.1 L 0)) (lowR : low 9 (X.1 R 0)) :
    ∃ X1, f_X5_changeSidesAbout σ X z s = some ((), sR (sR σ s 1 (some R)) s 2 (some L), X1, 0, 0) ∧ stOK (sR (sR σ s 1 (some R)) s 2 (some L)) s R L ∧ FrX X X1 s (s + 16) ∧
      (∀ t, t = L ∨ t = R → X1.1 t 0 = ren (X.1 t 0) ∧ X1.1 t 1 = X.1 t 1 ∧ (∀ c, c < 9 → X1.1 (t + 1) c = X.1 (t + 1) (flp c)) ∧ (∀ c, c < 9 → X1.1 (t + 2) c = X.1 (t + 2) (flp c)) ∧ (∀ k c, k < 20 → c < 9 → X1.1 (t + 3) (9 * k + c) = X.1 (t + 3) (9 * k + flp c))) ∧
      (∀ q, (s < q ∧ q < s + 5) ∨ (s + 13 ≤ q ∧ q < s + 16) → X1.1 q = X.1 q) ∧ X1.1 s 3 = X.1 s 4 ∧ X1.1 s 4 = X.1 s 3 ∧ X1.1 s 5 = X.1 s 5 ∧ (∀ j, j < 316 → X1.1 (s + 16) j = chF j (X.1 (s + 16) (cfl j))) := by
  have lr := hs.lr
  obtain ⟨s0, s1, s2, s3, s4, s5, s6, s7, s8, s9, s10, s11, s12, s13, s14, s15, s16, s17, s18⟩ := id hs
  obtain ⟨τ, hτ⟩ : ∃ τ, τ = sR (sR σ s 1 (some R)) s 2 (some L) := ⟨_, rfl⟩
  have tK : ∀ q, shK τ q = shK σ q := fun q => by rw [hτ]; rfl
  have tN : ∀ q, shN τ q = shN σ q := fun q => by rw [hτ]; rfl
  have tR : ∀ q j, shR τ q j = if q = s ∧ j = 2 then some L else if q = s ∧ j = 1 then some R else shR σ q j := fun q j => by rw [hτ]; rfl
  have tRn : ∀ q, q ≠ s → ∀ j, shR τ q j = shR σ q j := fun q hq j => by rw [tR, if_neg (by omega), if_neg (by omega)]
  have tRs : ∀ j, j ≠ 1 → j ≠ 2 → shR τ s j = shR σ s j := fun j j1 j2 => by rw [tR, if_neg (by omega), if_neg (by omega)]
  have ex : ∀ t, s < t → tabOK σ t → tabOK τ t := fun t ht h => h.ext (fun q q1 q2 => ⟨tK q, tN q, tRn q (by omega)⟩)
  have hst : stOK τ s R L := by
    refine ⟨by rw [tK]; exact s0, by rw [tRs 0 (by omega) (by omega)]; exact s1, by rw [tR, if_neg (by omega), if_pos ⟨rfl, rfl⟩], by rw [tR, if_pos ⟨rfl, rfl⟩], by rw [tRs 6 (by omega) (by omega)]; exact s4, by rw [tRs 7 (by omega) (by omega)]; exact s5, by rw [tRs 8 (by omega) (by omega)]; exact s6, by rw [tRs 9 (by omega) (by omega)]; exact s7, ex _ (by omega) s8, ex _ (by omega) s10, ex _ (by omega) s9, ?_, ?_, ?_, ?_, ?_, ?_, ?_, ?_⟩
    · rw [tK]; exact s11
    · rw [tN]; exact s12
    · rw [tK]; exact s13
    · rw [tN]; exact s14
    · rw [tK]; exact s15
    · rw [tN]; exact s16
    · rw [tK, tN]; exact s17
    · omega
  obtain ⟨Xa, ea, fa, a1, a0, a2, a3, a4⟩ := c_renum (X := X) (ex R (by omega) s10) lowR
  obtain ⟨Xb, eb, fb, b1, b0, b2, b3, b4⟩ := c_renum (X := Xa) (ex L (by omega) s9) (by rw [fa.2 L (by omega)]; exact lowL)
  obtain ⟨Xc, hXc⟩ : ∃ Xc, Xc = sI (sI Xb s 3 (Xb.1 s 4)) s 4 (Xb.1 s 3) := ⟨_, rfl⟩
  obtain ⟨Xd, ed, d1, d2, d3⟩ := c_choices (X := Xc) hst
  have xb : ∀ q, (q < L ∨ L + 3 < q) → (q < R ∨ R + 3 < q) → Xb.1 q = X.1 q := fun q h1 h2 => by rw [fb.2 q h1, fa.2 q h2]
  have xs : Xb.1 s = X.1 s := xb s (by omega) (by omega)
  have xd : ∀ q, q ≠ s → q ≠ s + 16 → Xd.1 q = Xb.1 q := fun q h1 h2 => by rw [d2 q h2, hXc, sI_ne h1, sI_ne h1]
  have k4 : shK τ s = 4 := hst.1
  refine ⟨Xd, ?_, by rw [← hτ]; exact hst, ⟨by rw [d1, hXc]; exact fb.1.trans fa.1, fun q hq => by rw [xd q (by omega) (by omega), xb q (by omega) (by omega)]⟩, fun t ht => ?_, fun q hq => by rw [xd q (by omega) (by omega), xb q (by omega) (by omega)], ?_, ?_, ?_, fun j hj => ?_⟩
  · rw [← hτ]
    unfold f_X5_changeSidesAbout
    rw [grd_t s0]
    simp only [ldR, s0, s2, s3, if_true, Option.bind_some]
    rw [stR_t s0, stR_t (show shK (sR σ s 1 (some R)) s = 4 from s0), ← hτ]
    simp only [k4, hst.2.2.1, hst.2.2.2.1, if_true, Option.bind_some]
    rw [ea, Option.bind_some, eb, Option.bind_some, ldI_t k4, ldI_t k4, stI_t k4, stI_t k4, ← hXc, ed, Option.bind_some]
  · rcases ht with rfl | rfl
    · have e : ∀ i, i < 4 → Xd.1 (t + i) = Xb.1 (t + i) := fun i hi => xd _ (by omega) (by omega)
      have g : ∀ i, i < 4 → Xa.1 (t + i) = X.1 (t + i) := fun i hi => fa.2 _ (by omega)
      have g0 : Xa.1 t = X.1 t := g 0 (by omega)
      rw [show Xd.1 t = Xb.1 t from e 0 (by omega), e 1 (by omega), e 2 (by omega), e 3 (by omega)]
      rw [g0] at b0 b1
      rw [g 1 (by omega)] at b2
      rw [g 2 (by omega)] at b3
      rw [g 3 (by omega)] at b4
      exact ⟨b0, b1, b2, b3, b4⟩
    · have e : ∀ i, i < 4 → Xd.1 (t + i) = Xa.1 (t + i) := fun i hi => by rw [xd _ (by omega) (by omega), fb.2 _ (by omega)]
      rw [show Xd.1 t = Xa.1 t from e 0 (by omega), e 1 (by omega), e 2 (by omega), e 3 (by omega)]
      exact ⟨a0, a1, a2, a3, a4⟩
  · rw [d2 s (by omega), hXc, sI_nk (by omega), sI_eq, xs]
  · rw [d2 s (by omega), hXc, sI_eq, xs]
  · rw [d2 s (by omega), hXc, sI_nk (by omega), sI_nk (by omega), xs]
  · rw [d3 j hj, hXc, sI_na (by omega), sI_na (by omega), xb _ (by omega) (by omega)]
