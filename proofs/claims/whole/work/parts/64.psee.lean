/-! ===== see, forget, fault ===== -/
def Pl (σ : Sh) (a : Nat) (fc : Option (Int32 × Mx)) (fm : Mx → Option (Int32 × Mx)) : Prop := ∃ w X1 X3 L R, fc = some (w, X1) ∧ fm X1 = some (w, X3) ∧ IV σ X3 a L R
theorem ref_at {σ : Sh} {X Y : Mx} {a L R ix : Nat} (h : IV σ X a L R) (f : FrQ (sI X (a + 107) ix (X.1 (a + 107) ix + nI 1)) Y (a + 108)) : IV σ (sI Y (a + 108 + 2) ix (Y.1 (a + 108 + 2) ix + nI 1)) a L R := by
  obtain ⟨f1, f2, f3, f4⟩ := f
  have y107 : Y.1 (a + 107) = (sI X (a + 107) ix (X.1 (a + 107) ix + nI 1)).1 (a + 107) := f2 _ (by omega)
  have y110 : Y.1 (a + 108 + 2) = X.1 (a + 110) := by rw [f2 _ (by omega), sI_ne (by omega)]
  have h0 : IV σ (sI Y (a + 107) ix (X.1 (a + 107) ix)) a L R := by
    refine h.frQ ⟨f1, fun q hq => ?_, fun j hj => ?_, fun j hj => ?_⟩
    · by_cases e : q = a + 107
      · subst e
        funext j
        by_cases e : j = ix
        · subst e; rw [sI_eq]
        · rw [sI_nk e, y107, sI_nk e]
      · rw [sI_ne e, f2 q hq, sI_ne e]
    · rw [sI_na (by omega), f3 j hj, sI_na (by omega)]
    · rw [sI_na (by omega), f4 j hj, sI_na (by omega)]
  refine h0.ref (fun q q1 q2 q3 q4 => ?_) (fun j hj => ?_) (fun j hj => ?_) (fun i hi => ?_)
  · rw [sI_ne (by omega), sI_ne q1]
  · rw [sI_na (by omega), sI_na (by omega)]
  · rw [sI_na (by omega), sI_na (by omega)]
  · have r3 := h.2.1.2.2.2.2.2.2.1 i hi
    rw [sI_na (by omega), y107]
    show _ = (sI Y (a + 108 + 2) ix (Y.1 (a + 108 + 2) ix + nI 1)).1 (a + 108 + 2) i
    by_cases e : i = ix
    · subst e
      rw [sI_eq, sI_eq, y110, r3]
    · rw [sI_nk e, sI_nk e, y110, r3]
theorem IV.seen {σ : Sh} {X Z : Mx} {a L R : Nat} (h : IV σ X a L R) (hq : ∀ q, q ≠ a + 81 → (q < a + 49 ∨ a + 52 < q) → q ≠ a + 122 → q ≠ a + 108 → Z.1 q = X.1 q) (hm : ∀ j, j ≠ 0 → j ≠ 32 → Z.1 (a + 108) j = X.1 (a + 108) j) (hS : SeenR Z.1 (a + 49) (Z.1 (a + 108) 32) (a + 122)) (h81 : ∀ q, q < 7 → Z.1 (a + 81) q = nI 0) : IV σ Z a L R := by
  obtain ⟨hs, ⟨c1, c2, c3, c4, ⟨c5, c6⟩, ⟨f, c7, c8⟩, c9, c10⟩, hM, hQ⟩ := h
  have lr := hs.2.1.lr
  have Q : ∀ q, q ≠ a + 81 → (q < a + 49 ∨ a + 52 < q) → q ≠ a + 122 → q ≠ a + 108 → Z.1 q = X.1 q := hq
  refine ⟨hs, ⟨c1.fr lr (fun q q1 q2 => Q q (by omega) (by omega) (by omega) (by omega)) (fun j hj => by rw [Q _ (by omega) (by omega) (by omega) (by omega)]), c2.fr (by rw [Q _ (by omega) (by omega) (by omega) (by omega)]) (hm 2 (by omega) (by omega)) (Q _ (by omega) (by omega) (by omega) (by omega)) (Q _ (by omega) (by omega) (by omega) (by omega)), c3.fr (Or.inl rfl) hs.2.2.1 (by rw [Q _ (by omega) (by omega) (by omega) (by omega)]) (by rw [Q _ (by omega) (by omega) (by omega) (by omega)]) (hm 19 (by omega) (by omega)) (Q _ (by omega) (by omega) (by omega) (by omega)) (fun q h => Q q (by omega) (by omega) (by omega) (by omega)), hS, ⟨by rw [Q a (by omega) (by omega) (by omega) (by omega), hm 35 (by omega) (by omega)]; exact c5, ?_⟩, ⟨f, c7, by rw [Q _ (by omega) (by omega) (by omega) (by omega)]; exact c8⟩, fun i hi => by rw [Q (a + 107) (by omega) (by omega) (by omega) (by omega), Q (a + 110) (by omega) (by omega) (by omega) (by omega)]; exact c9 i hi, by rw [Q a (by omega) (by omega) (by omega) (by omega), hm 4 (by omega) (by omega)]; exact c10⟩, hM.fr hs.lr (by rw [Q a (by omega) (by omega) (by omega) (by omega)]) (fun q h1 h2 => Q q (by omega) (by omega) (by omega) (by omega)) (fun j hj => by rw [Q _ (by omega) (by omega) (by omega) (by omega)]), fun q hq => Or.inl (h81 q (by omega))⟩
  rw [Q a (by omega) (by omega) (by omega) (by omega)]
  refine c6.imp_right (fun ⟨d1, d2, d3, d4⟩ => ⟨d1, ?_, ?_, ?_⟩)
  · rw [Q (a + 123) (by omega) (by omega) (by omega) (by omega)]
    exact d2.fr (Or.inl ⟨rfl, rfl⟩) (fun q h1 h2 => Q q (by omega) (by omega) (by omega) (by omega)) (fun _ _ => rfl)
  · exact d3.fr (Or.inr rfl) hs.2.2.1 (by rw [Q _ (by omega) (by omega) (by omega) (by omega)]) (by rw [Q _ (by omega) (by omega) (by omega) (by omega)]) (hm 36 (by omega) (by omega)) (Q _ (by omega) (by omega) (by omega) (by omega)) (fun q h => Q q (by omega) (by omega) (by omega) (by omega))
  · exact d4.fr (Q _ (by omega) (by omega) (by omega) (by omega)) (Q _ (by omega) (by omega) (by omega) (by omega)) (Q _ (by omega) (by omega) (by omega) (by omega)) (Q _ (by omega) (by omega) (by omega) (by omega)) (hm 37 (by omega) (by omega)) (Q _ (by omega) (by omega) (by omega) (by omega))
theorem q_clear {σ : Sh} {X : Mx} {a L R : Nat} (hs : IVs σ a L R) : ∃ X1, f_X3_clear σ X (a + 53) = some X1 ∧ (∀ q, q ≠ a + 81 → X1.1 q = X.1 q) ∧ (∀ j, j < 7 → X1.1 (a + 81) j = nI 0) := by
  obtain ⟨q0, q1, q2, q3, q4, q5, q6, q7, q8, q9, q10, q11, q12, q13⟩ := hs.1.2.2.2.2.2.1
  have hf := s_fill (σ := σ) (X := X) (a := a + 53 + 28) (v := nI 0) q8 (by rw [q9]; omega)
  rw [q9] at hf
  refine ⟨wF X (a + 53 + 28) (fun j => if j < 7 then nI 0 else X.1 (a + 53 + 28) j), ?_, fun q hq => wF_fn (by omega), fun j hj => ?_⟩
  · unfold f_X3_clear
    simp only [litM]
    rw [grd_t q0]
    simp only [ldR, q0, q3, if_true, Option.bind_some]
    rw [hf]
    rfl
  · rw [show a + 81 = a + 53 + 28 from rfl, wF_at, if_pos hj]
theorem a_fault {σ : Sh} {X : Mx} {a L R : Nat} (h : IV σ X a L R) : ∃ w X3, f_X9_fault σ X a = some w ∧ f_X10_fault σ X (a + 108) = some (w, X3) ∧ IV σ X3 a L R := by
  have m0 := h.1.md.1
  refine ⟨X.1 a 11, sI X (a + 108) 0 (nI 0), ?_, ?_, h.frQ (FrQ.fld (by omega))⟩
  · unfold f_X9_fault
    rw [grd_t h.1.1.1.1, ldI_t h.1.1.1.1]
  · unfold f_X10_fault
    simp only [litM]
    rw [grd_t m0, stI_t m0, ldI_t m0, sI_nk (by omega), ← h.2.1.2.2.2.2.2.2.2]
theorem a_forget {σ : Sh} {X : Mx} {a L R : Nat} (h : IV σ X a L R) : ∃ X1 X3, f_X9_forget σ X a = some X1 ∧ f_X10_forget σ X1 (a + 108) = some X3 ∧ IV σ X3 a L R := by
  have hs := h.1
  have m0 := hs.md.1
  obtain ⟨o0, o1, o2, o3, o4, o5, o6, -⟩ := hs.1.1
  have n0 : shK σ (a + 49) = 3 := hs.1.2.2.2.2.1.1
  obtain ⟨X1, e1, w1, w2⟩ := q_clear (X := sI X (a + 49) 0 (nI 0)) hs
  refine ⟨X1, sI (sI X1 (a + 108) 0 (nI 0)) (a + 108) 32 (nI 0), ?_, ?_, ?_⟩
  · unfold f_X9_forget f_X4_clear
    simp only [litM]
    rw [grd_t o0]
    simp only [ldR, o0, o5, o6, if_true, Option.bind_some]
    rw [grd_t n0, stI_t n0, Option.bind_some, e1, Option.bind_some]
  · unfold f_X10_forget
    simp only [litM]
    rw [grd_t m0, stI_t m0, stI_t m0]
  · refine h.seen (fun q q1 q2 q3 q4 => ?_) (fun j j1 j2 => ?_) ?_ (fun q hq => ?_)
    · rw [sI_ne q4, sI_ne q4, w1 q q1, sI_ne (by omega)]
    · rw [sI_nk j2, sI_nk j1, w1 _ (by omega), sI_na (by omega)]
    · exact ⟨0, by omega, by rw [sI_na (by omega), sI_na (by omega), w1 _ (by omega), sI_eq], by rw [sI_eq], fun i hi => by omega⟩
    · rw [sI_na (by omega), sI_na (by omega)]; exact w2 q hq
