/-! ===== alone: which cells are tried ===== -/
theorem s_isMerged {σ : Sh} {X : Mx} {g t c : Nat} (hg : mgOK σ g) (ht : t < 2) (hc : c < 9) : f_X2_isMerged σ X g (nI t) (nI c) = some (bI (if t = 0 then bt (X.1 (g + 1) 0) c else anyB (fun x => decide (X.1 (g + 9) x = nI c) && bt (X.1 (g + 1) 0) x) 9)) := by
  have hgg := id hg
  obtain ⟨g0, g1, g2, g3, g4, g5, g6, gT, k5, l5, k6, l6, k7, l7, k8, l8, k9, l9⟩ := hg
  unfold f_X2_isMerged
  simp only [litM]
  rw [grd_t g0]
  rcases (show t = 0 ∨ t = 1 by omega) with rfl | rfl
  · rw [if_pos rfl]
    simp only [ldR, g0, g1, if_true, Option.bind_some]
    rw [s_hasColumn gT, Option.bind_some, inB_n hc (by omega), grd_t (of_eq_true (bI_01 _))]
  · rw [if_neg (by decide), if_neg (by decide)]
    have e := any_loop (F := fun n k => f_X2_isMerged_15 σ X g (nI c) n (nI k)) (N := 9) (p := fun x => decide (X.1 (g + 9) x = nI c) && bt (X.1 (g + 1) 0) x) (e := false) (by
      intro n k hk
      show f_X2_isMerged_15 σ X g (nI c) (n + 1) (nI k) = _
      rw [f_X2_isMerged_15]
      unfold f_X2_isMerged_44
      simp only [litM]
      rw [if_neg (by rw [n_le (by omega) (by omega)]; omega)]
      simp only [ldR, g0, g1, g6, if_true, Option.bind_some]
      rw [ldA_t k9 (by omega) (by omega), s_hasColumn gT, Option.bind_some, inB_n hk (by omega), nI_add]
      by_cases e : X.1 (g + 9) k = nI c
      · rw [if_pos e, decide_eq_true e, Bool.true_and]
        cases bt (X.1 (g + 1) 0) k <;> rfl
      · rw [if_neg e, decide_eq_false e, Bool.false_and, if_neg (by decide)]) (by
      intro n
      show f_X2_isMerged_15 σ X g (nI c) (n + 1) (nI 9) = _
      rw [f_X2_isMerged_15]
      exact if_pos (Int32.le_refl _)) FU 0 (by omega) (by rw [FU_40000]; omega) rfl
    refine Eq.trans e ?_
    rw [Bool.or_false]
def mrgB (h : Int32) (so : Nat → Int32) (t c : Nat) : Bool := anyB (fun x => decide (so (9 * t + x) = nI c) && bt h x) 9
theorem nI_ne {a b : Nat} (h : a ≠ b) (ha : a < 2 ^ 31) (hb : b < 2 ^ 31) : ¬ nI a = nI b := fun e => h ((nI_eq ha hb).mp e)
theorem nI_nm {a : Nat} (ha : a < 2 ^ 31) : ¬ -(nI 1) = nI a := by rw [m_eq2 ha]; exact not_false
theorem mrg_eq {h Lh Rh : Int32} {cr so : Nat → Int32} {t c : Nat} (hS : SR h Lh Rh cr so) (ht : t < 2) (hc : c < 9) (hb : bt (if t = 0 then Lh else Rh) c = true) (h78 : bt Lh 7 = false ∧ bt Lh 8 = false) : (if t = 0 then bt h c else anyB (fun x => decide (cr x = nI c) && bt h x) 9) = mrgB h so t c := by
  unfold mrgB
  rcases (show t = 0 ∨ t = 1 by omega) with rfl | rfl
  · rw [if_pos rfl] at hb ⊢
    have c7 : c < 7 := by
      by_cases q : c < 7
      · exact q
      · rcases (show c = 7 ∨ c = 8 by omega) with rfl | rfl
        · rw [h78.1] at hb; cases hb
        · rw [h78.2] at hb; cases hb
    cases e : bt h c with
    | true =>
      refine (anyB_t hc ?_).symm
      rw [e, Bool.and_true]
      refine decide_eq_true ?_
      rw [Nat.mul_zero, Nat.zero_add]
      obtain ⟨a1, a2, a3⟩ := hS c hc e
      by_cases q : c < 5
      · rw [(a1 q).2.1, if_pos hb]
      · exact (a2 (by omega) c7).2.1
    | false =>
      refine (anyB_f (fun x hx => ?_)).symm
      cases e2 : bt h x with
      | false => rw [Bool.and_false]
      | true =>
        rw [Bool.and_true, Nat.mul_zero, Nat.zero_add]
        refine decide_eq_false (fun q => ?_)
        have xc : x ≠ c := fun w => by rw [w, e] at e2; cases e2
        obtain ⟨a1, a2, a3⟩ := hS x hx e2
        by_cases q1 : x < 5
        · rw [(a1 q1).2.1] at q
          by_cases q2 : bt Lh x = true
          · rw [if_pos q2] at q; exact nI_ne xc (by omega) (by omega) q
          · rw [if_neg q2] at q; exact nI_nm (by omega) q
        · by_cases q3 : x < 7
          · rw [(a2 (by omega) q3).2.1] at q; exact nI_ne xc (by omega) (by omega) q
          · rw [(a3 (by omega)).2.1] at q; exact nI_nm (by omega) q
  · rw [if_neg (by decide)] at hb ⊢
    refine anyB_congr (fun x hx => ?_)
    cases e2 : bt h x with
    | false => rw [Bool.and_false, Bool.and_false]
    | true =>
      rw [Bool.and_true, Bool.and_true, show 9 * 1 + x = 9 + x by omega]
      obtain ⟨a1, a2, a3⟩ := hS x hx e2
      by_cases q1 : x < 5
      · rw [(a1 q1).1, (a1 q1).2.2]
        by_cases xc : x = c
        · rw [xc, if_pos hb]
        · rw [decide_eq_false (nI_ne xc (by omega) (by omega))]
          by_cases q2 : bt Rh x = true
          · rw [if_pos q2, decide_eq_false (nI_ne xc (by omega) (by omega))]
          · rw [if_neg q2, decide_eq_false (nI_nm (by omega))]
      · by_cases q3 : x < 7
        · rw [(a2 (by omega) q3).2.2.1]
        · rw [(a3 (by omega)).2.2.1, (a3 (by omega)).2.2.2]
/-- the reference's inner loop: is the column merged -/
theorem m_la31 {τ : Sh} {Y : Mx} {m t k c p : Nat} {k9 k18 : Mx → Int32 → Int32 → Option (Int32 × Mx)} (hm : mdOK τ m) (ht : t < 2) (hk : k < 20) (hc : c < 9) (hp : p ≤ 10) : f_X10_laysAlone_31 k9 k18 τ m (nI t) (nI p) (nI k) (nI c) FU Y (nI 0) (nI 0) = (if (decide (p < 10) && mrgB (Y.1 m 20) (Y.1 (m + 9)) t c && bt (Y.1 m 21) k && rChg (Y.1 (m + 3)) 0 t k c) = true then k18 (sI Y (m + 13) p (nI (9 * k + c))) (nI (p + 1)) (nI (c + 1)) else k18 Y (nI p) (nI (c + 1))) := by
  have hmm := id hm
  obtain ⟨m0, m1, m2, m3, m4, m5, m6, m7, m8, m9, m10, m11, m12, m13, m14, m15, m16, m17, mq1, mq2, mq3, mq4, mq5, mq6, mq7, mq8, mq9, mq10, mq11, mq12, mq13, mq14, mq15, mq16, mq17, mn1, mn2, mn3, mn4, mn5, mn6, mn7, mn8, mn9, mn10, mn11, mn12, mn13, mn14, mn15, mn16, mn17⟩ := hm
  obtain ⟨n, b, e, w1⟩ := up_loop (fun n (b : Bool) x => f_X10_laysAlone_31 k9 k18 τ m (nI t) (nI p) (nI k) (nI c) n Y (bI b) (nI x)) 9 (fun x b => b = anyB (fun x => decide (Y.1 (m + 9) (9 * t + x) = nI c) && bt (Y.1 m 20) x) x) (by
    intro n x b hx hb
    refine ⟨b || (decide (Y.1 (m + 9) (9 * t + x) = nI c) && bt (Y.1 m 20) x), ?_, by rw [anyB, hb]⟩
    show f_X10_laysAlone_31 k9 k18 τ m (nI t) (nI p) (nI k) (nI c) (n + 1) Y (bI b) (nI x) = f_X10_laysAlone_31 k9 k18 τ m (nI t) (nI p) (nI k) (nI c) n Y (bI (b || (decide (Y.1 (m + 9) (9 * t + x) = nI c) && bt (Y.1 m 20) x))) (nI (x + 1))
    rw [f_X10_laysAlone_31]
    unfold f_X10_laysAlone_73 f_X10_laysAlone_77 f_X10_laysAlone_78
    simp only [litM]
    rw [if_neg (by rw [n_le (by omega) (by omega)]; omega)]
    simp only [ldR, m0, m9, if_true, Option.bind_some, nI_mul, nI_add]
    rw [ldA_t mq9 (by omega) (by omega), ldI_t m0, bt_d (by omega)]
    cases b with
    | true => rw [if_neg (by decide), Bool.true_or]; rfl
    | false =>
      rw [if_pos bI_f, Bool.false_or]
      by_cases q : Y.1 (m + 9) (9 * t + x) = nI c
      · rw [if_pos q, decide_eq_true q, Bool.true_and]
        cases bt (Y.1 m 20) x <;> rfl
      · rw [if_neg q, decide_eq_false q, Bool.false_and]; rfl) FU 0 false (by omega) rfl (by rw [FU_40000]; omega)
  refine Eq.trans e ?_
  show f_X10_laysAlone_31 k9 k18 τ m (nI t) (nI p) (nI k) (nI c) (n + 1) Y (bI b) (nI 9) = _
  rw [f_X10_laysAlone_31]
  refine Eq.trans (if_pos (Int32.le_refl _)) ?_
  unfold f_X10_laysAlone_139
  simp only [litM]
  simp only [ldR, m0, m13, if_true, Option.bind_some, nI_mul, nI_add]
  rw [ldI_t m0, bt_d (by omega), s10_isChanged hmm (by omega) (by omega) hk hc, Option.bind_some, show b = mrgB (Y.1 m 20) (Y.1 (m + 9)) t c from w1]
  by_cases p10 : p = 10
  · rw [if_pos (by rw [p10]), decide_eq_false (by omega)]; rfl
  · rw [if_neg (nI_ne p10 (by omega) (by omega)), decide_eq_true (show p < 10 by omega), Bool.true_and, stA_t mq13 (by omega) (by omega)]
    cases mrgB (Y.1 m 20) (Y.1 (m + 9)) t c <;> cases bt (Y.1 m 21) k <;> cases rChg (Y.1 (m + 3)) 0 t k c <;> rfl
/-- the class's step -/
theorem c_pick {σ : Sh} {X : Mx} {q s L R g t k c p n : Nat} {k8 : Mx → Int32 → Option Mx} (hq : quOK σ q) (hs : stOK σ s L R) (hg : mgOK σ g) (ht : t < 2) (hk : k < 20) (hc : c < 9) (hp : p ≤ 10) (h5 : X.1 q 5 = nI p) : f_X3_pickChanged_18 k8 σ q s g (nI t) (nI k) (n + 1) X (nI c) = (if (decide (p < 10) && cChg X.1 (s + 1) (sd t L R) k c && bt (X.1 (g + 1) 1) k && (if t = 0 then bt (X.1 (g + 1) 0) c else anyB (fun x => decide (X.1 (g + 9) x = nI c) && bt (X.1 (g + 1) 0) x) 9)) = true then f_X3_pickChanged_18 k8 σ q s g (nI t) (nI k) n (sI (sI X (q + 30) p (nI (9 * k + c))) q 5 (nI (p + 1))) (nI (c + 1)) else f_X3_pickChanged_18 k8 σ q s g (nI t) (nI k) n X (nI (c + 1))) := by
  obtain ⟨q0, q1, q2, q3, q4, q5, qs, qg, k28, n28, k29, n29, k30, n30⟩ := hq
  have gT : tabOK σ (g + 1) := hg.2.2.2.2.2.2.2.1
  rw [f_X3_pickChanged_18]
  unfold f_X3_pickChanged_95
  simp only [litM]
  rw [if_neg (by rw [n_le (by omega) (by omega)]; omega), ldI_t q0, h5]
  simp only [ldR, q0, q5, hg.1, hg.2.1, if_true, Option.bind_some]
  rw [s_isChanged hs ht hk hc, Option.bind_some, s_hasRow gT, Option.bind_some, inB_n hk (by omega), s_isMerged hg ht hc, Option.bind_some]
  simp only [nI_mul, nI_add]
  by_cases p10 : p = 10
  · rw [if_pos (by rw [p10]; exact Int32.le_refl _), decide_eq_false (by omega)]; rfl
  · rw [if_neg (by rw [n_le (by omega) (by omega)]; omega), decide_eq_true (show p < 10 by omega), Bool.true_and, ldI_t q0, h5, stA_t k30 (by omega) (by omega), ldI_t q0, sI_na (by omega), h5, stI_t q0, nI_add, Nat.mul_comm k 9]
    cases cChg X.1 (s + 1) (sd t L R) k c with
    | false => rfl
    | true =>
      cases bt (X.1 (g + 1) 1) k with
      | false => rfl
      | true =>
        cases (if t = 0 then bt (X.1 (g + 1) 0) c else anyB (fun x => decide (X.1 (g + 9) x = nI c) && bt (X.1 (g + 1) 0) x) 9) <;> rfl
