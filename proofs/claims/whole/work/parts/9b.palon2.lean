/-- the cells picked so far, alike in both; pos is where the looking stands -/
def PkI (X0 Y0 : Mx) (q m ow pos : Nat) (X Y : Mx) (p : Nat) : Prop := p ≤ 10 ∧ X.1 q 5 = nI p ∧ X.2 = X0.2 ∧ (∀ r, r ≠ q → r ≠ q + 30 → X.1 r = X0.1 r) ∧ Y.2 = Y0.2 ∧ (∀ r, r ≠ m + 13 → Y.1 r = Y0.1 r) ∧ ∃ v : Nat → Nat, (∀ i, i < p → v i < pos ∧ X.1 (q + 30) i = nI (v i) ∧ Y.1 (m + 13) i = nI (v i) ∧ bt (X0.1 ow 1) (v i / 9) = true ∧ bt (X0.1 ow 0) (v i % 9) = true) ∧ (∀ i j, i < j → j < p → v i < v j)
theorem PkI.next {X0 Y0 X Y : Mx} {q m ow pos p : Nat} (h : PkI X0 Y0 q m ow pos X Y p) : PkI X0 Y0 q m ow (pos + 1) X Y p := by
  obtain ⟨h1, h2, h3, h4, h5, h6, v, h7, h8⟩ := h
  exact ⟨h1, h2, h3, h4, h5, h6, v, fun i hi => ⟨by have := (h7 i hi).1; omega, (h7 i hi).2⟩, h8⟩
theorem PkI.put {X0 Y0 X Y : Mx} {q m ow pos p : Nat} (h : PkI X0 Y0 q m ow pos X Y p) (hp : p < 10) (b1 : bt (X0.1 ow 1) (pos / 9) = true) (b0 : bt (X0.1 ow 0) (pos % 9) = true) : PkI X0 Y0 q m ow (pos + 1) (sI (sI X (q + 30) p (nI pos)) q 5 (nI (p + 1))) (sI Y (m + 13) p (nI pos)) (p + 1) := by
  obtain ⟨h1, h2, h3, h4, h5, h6, v, h7, h8⟩ := h
  refine ⟨by omega, sI_eq, h3, fun r r1 r2 => by rw [sI_ne r1, sI_ne r2]; exact h4 r r1 r2, h5, fun r hr => by rw [sI_ne hr]; exact h6 r hr, fun i => if i = p then pos else v i, fun i hi => ?_, fun i j hij hj => ?_⟩
  · by_cases e : i = p
    · subst e
      simp only [if_true]
      exact ⟨by omega, by rw [sI_na (by omega), sI_eq], sI_eq, b1, b0⟩
    · simp only [e, if_false]
      obtain ⟨g1, g2, g3, g4, g5⟩ := h7 i (by omega)
      exact ⟨by omega, by rw [sI_na (by omega), sI_nk e]; exact g2, by rw [sI_nk e]; exact g3, g4, g5⟩
  · have ei : (i = p) = False := eq_false (by omega)
    by_cases e : j = p
    · simp only [ei, e, if_true, if_false]
      exact (h7 i (by omega)).1
    · simp only [ei, e, if_false]
      exact h8 i j hij (by omega)
theorem pick_both {σ τ : Sh} {X Y : Mx} {q s L R g m t : Nat} (hq : quOK σ q) (hs : stOK σ s L R) (hg : mgOK σ g) (hm : mdOK τ m) (hsq : s + 16 < q) (hgq : g + 9 < q) (ht : t < 2) (hS : StR X.1 s L R (Y.1 (m + 3)) 0) {n : Nat} {cc : Nat → Int32} (hR : MR n cc (X.1 L 0) (X.1 R 0) X.1 g Y.1 m) :
    ∃ X1 Y1 p, f_X3_pickChanged σ X q s g (nI t) = some X1 ∧ f_X10_laysAlone_9 τ m (nI t) FU Y (nI 0) (nI 0) = some (nI p, Y1) ∧ PkI X Y q m (sd t L R) 180 X1 Y1 p := by
  have lr := hs.lr
  have hT := hS.tab ht
  have hsd := sd_in hs t
  have gH : X.1 (g + 1) 0 = Y.1 m 20 := hR.1.1
  have gK : X.1 (g + 1) 1 = Y.1 m 21 := hR.1.2.1
  have row : ∀ k (N M : Nat) (S T : Mx) (p : Nat) (k8 : Mx → Int32 → Option Mx) (k9 : Mx → Int32 → Int32 → Option (Int32 × Mx)), k < 20 → PkI X Y q m (sd t L R) (9 * k) S T p → ∃ S1 T1 p1, f_X3_pickChanged_18 k8 σ q s g (nI t) (nI k) FU S (nI 0) = k8 S1 (nI (k + 1)) ∧ f_X10_laysAlone_18 k9 τ m (nI t) (nI k) FU T (nI p) (nI 0) = k9 T1 (nI p1) (nI (k + 1)) ∧ PkI X Y q m (sd t L R) (9 * (k + 1)) S1 T1 p1 := by
    intro k N M S T p k8 k9 hk h0
    obtain ⟨n1, n2, S1, ⟨T1, p1⟩, eF, eG, hI⟩ := up_loop2 (fun N (S : Mx) c => f_X3_pickChanged_18 k8 σ q s g (nI t) (nI k) N S (nI c)) (fun N (T : Mx × Nat) c => f_X10_laysAlone_18 k9 τ m (nI t) (nI k) N T.1 (nI T.2) (nI c)) 9 (fun c S T => PkI X Y q m (sd t L R) (9 * k + c) S T.1 T.2) (by
      rintro N M c S ⟨T, p⟩ hc hI
      obtain ⟨h1, h2, h3, h4, h5, h6, -⟩ := id hI
      have sq : ∀ r, r < q → S.1 r = X.1 r := fun r hr => h4 r (by omega) (by omega)
      have c1 := c_pick (n := N) (k8 := k8) (X := S) hq hs hg ht hk hc h1 h2
      have c2 := m_la31 (Y := T) (k9 := k9) (k18 := f_X10_laysAlone_18 k9 τ m (nI t) (nI k) M) hm ht hk hc h1
      have eC : cChg S.1 (s + 1) (sd t L R) k c = cChg X.1 (s + 1) (sd t L R) k c := by
        unfold cChg
        rw [sq (sd t L R) (by omega), sq (sd t L R + 3) (by omega), sq (sd t L R + 2) (by omega), sq (s + 1 + 3) (by omega)]
      have eR : rChg (T.1 (m + 3)) 0 t k c = cChg X.1 (s + 1) (sd t L R) k c := by
        rw [h6 (m + 3) (by omega)]
        exact chg_rel (b := 0) hS.2.2.1 hT hk hc
      rw [eC, sq (g + 1) (by omega), sq (g + 9) (by omega), gH, gK] at c1
      rw [eR, h6 m (by omega), h6 (m + 9) (by omega)] at c2
      have c3 : f_X10_laysAlone_18 k9 τ m (nI t) (nI k) (M + 1) T (nI p) (nI c) = f_X10_laysAlone_31 k9 (f_X10_laysAlone_18 k9 τ m (nI t) (nI k) M) τ m (nI t) (nI p) (nI k) (nI c) FU T (nI 0) (nI 0) := by
        rw [f_X10_laysAlone_18]
        simp only [litM]
        rw [if_neg (by rw [n_le (by omega) (by omega)]; omega)]
      rw [c2] at c3
      cases eChg : cChg X.1 (s + 1) (sd t L R) k c with
      | false =>
        rw [eChg, Bool.and_false, Bool.false_and, Bool.false_and, if_neg (by decide)] at c1
        rw [eChg, Bool.and_false, if_neg (by decide)] at c3
        exact ⟨S, (T, p), c1, c3, hI.next⟩
      | true =>
        have hbits : bt (X.1 (sd t L R) 1) k = true ∧ bt (X.1 (sd t L R) 0) c = true := by
          unfold cChg at eChg
          have := Bool.and_eq_true_iff.mp eChg
          exact Bool.and_eq_true_iff.mp this.1
        have hMg := mrg_eq (t := t) (c := c) hR.2.2.2 ht hc (by
          rcases (show t = 0 ∨ t = 1 by omega) with rfl | rfl
          · exact hbits.2
          · exact hbits.2) hS.2.2.2.2.1
        rw [eChg, Bool.and_true, hMg] at c1
        rw [eChg, Bool.and_true] at c3
        have sw : (decide (p < 10) && bt (Y.1 m 21) k && mrgB (Y.1 m 20) (Y.1 (m + 9)) t c) = (decide (p < 10) && mrgB (Y.1 m 20) (Y.1 (m + 9)) t c && bt (Y.1 m 21) k) := by
          cases decide (p < 10) <;> cases bt (Y.1 m 21) k <;> cases mrgB (Y.1 m 20) (Y.1 (m + 9)) t c <;> rfl
        rw [sw] at c1
        by_cases eq : (decide (p < 10) && mrgB (Y.1 m 20) (Y.1 (m + 9)) t c && bt (Y.1 m 21) k) = true
        · rw [if_pos eq] at c1 c3
          have p10 : p < 10 := of_decide_eq_true (Bool.and_eq_true_iff.mp (Bool.and_eq_true_iff.mp eq).1).1
          refine ⟨sI (sI S (q + 30) p (nI (9 * k + c))) q 5 (nI (p + 1)), (sI T (m + 13) p (nI (9 * k + c)), p + 1), c1, c3, hI.put p10 ?_ ?_⟩
          · rw [show (9 * k + c) / 9 = k by omega]; exact hbits.1
          · rw [show (9 * k + c) % 9 = c by omega]; exact hbits.2
        · rw [if_neg eq] at c1 c3
          exact ⟨S, (T, p), c1, c3, hI.next⟩) FU FU 0 S (T, p) (by omega) h0 (by rw [FU_40000]; omega) (by rw [FU_40000]; omega)
    refine ⟨S1, T1, p1, ?_, ?_, hI⟩
    · refine Eq.trans eF ?_
      show f_X3_pickChanged_18 k8 σ q s g (nI t) (nI k) (n1 + 1) S1 (nI 9) = _
      rw [f_X3_pickChanged_18]
      refine Eq.trans (if_pos (Int32.le_refl _)) ?_
      simp only [litM, nI_add]
    · refine Eq.trans eG ?_
      show f_X10_laysAlone_18 k9 τ m (nI t) (nI k) (n2 + 1) T1 (nI p1) (nI 9) = _
      rw [f_X10_laysAlone_18]
      refine Eq.trans (if_pos (Int32.le_refl _)) ?_
      simp only [litM, nI_add]
  obtain ⟨n1, n2, S1, ⟨T1, p1⟩, eF, eG, hI⟩ := up_loop2 (fun N (S : Mx) k => f_X3_pickChanged_8 σ q s g (nI t) N S (nI k)) (fun N (T : Mx × Nat) k => f_X10_laysAlone_9 τ m (nI t) N T.1 (nI T.2) (nI k)) 20 (fun k S T => PkI X Y q m (sd t L R) (9 * k) S T.1 T.2) (by
    rintro N M k S ⟨T, p⟩ hk hI
    obtain ⟨S1, T1, p1, e1, e2, e3⟩ := row k N M S T p (f_X3_pickChanged_8 σ q s g (nI t) N) (f_X10_laysAlone_9 τ m (nI t) M) hk hI
    refine ⟨S1, (T1, p1), ?_, ?_, e3⟩
    · refine Eq.trans ?_ e1
      show f_X3_pickChanged_8 σ q s g (nI t) (N + 1) S (nI k) = _
      rw [f_X3_pickChanged_8]
      simp only [litM]
      rw [if_neg (by rw [n_le (by omega) (by omega)]; omega)]
    · refine Eq.trans ?_ e2
      show f_X10_laysAlone_9 τ m (nI t) (M + 1) T (nI p) (nI k) = _
      rw [f_X10_laysAlone_9]
      simp only [litM]
      rw [if_neg (by rw [n_le (by omega) (by omega)]; omega)]) FU FU 0 (sI X q 5 (nI 0)) (Y, 0) (by omega) ⟨by omega, sI_eq, rfl, fun r r1 _ => sI_ne r1, rfl, fun _ _ => rfl, fun _ => 0, fun i hi => absurd hi (Nat.not_lt_zero _), fun i j _ hj => absurd hj (Nat.not_lt_zero _)⟩ (by rw [FU_40000]; omega) (by rw [FU_40000]; omega)
  refine ⟨S1, T1, p1, ?_, ?_, hI⟩
  · unfold f_X3_pickChanged
    simp only [litM]
    rw [grd_t hq.1, stI_t hq.1]
    refine Eq.trans eF ?_
    show f_X3_pickChanged_8 σ q s g (nI t) (n1 + 1) S1 (nI 20) = _
    rw [f_X3_pickChanged_8]
    exact if_pos (Int32.le_refl _)
  · refine Eq.trans eG ?_
    show f_X10_laysAlone_9 τ m (nI t) (n2 + 1) T1 (nI p1) (nI 20) = _
    rw [f_X10_laysAlone_9]
    exact if_pos (Int32.le_refl _)
