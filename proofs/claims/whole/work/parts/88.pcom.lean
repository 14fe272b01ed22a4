/-! ===== commit: the merged table becomes the class's base ===== -/
theorem cnt_mono {h : Int32} {c d : Nat} (hcd : c ≤ d) : cnt c h ≤ cnt d h := by
  induction d with
  | zero => rw [show c = 0 by omega]; exact Nat.le_refl _
  | succ d ih =>
    by_cases e : c = d + 1
    · rw [e]; exact Nat.le_refl _
    · exact Nat.le_trans (ih (by omega)) (Nat.le_add_right _ _)
theorem cnt_t {h : Int32} {c : Nat} (hb : bt h c = true) : cnt (c + 1) h = cnt c h + 1 := by
  show cnt c h + (if bt h c then 1 else 0) = _
  rw [if_pos hb]
theorem cnt_f {h : Int32} {c : Nat} (hb : bt h c = false) : cnt (c + 1) h = cnt c h := by
  show cnt c h + (if bt h c then 1 else 0) = _
  rw [hb]; rfl
theorem cnt_lt2 {h : Int32} {c d : Nat} (hcd : c < d) (hb : bt h c = true) : cnt c h < cnt d h :=
  Nat.lt_of_lt_of_le (by rw [cnt_t hb]; omega) (cnt_mono (show c + 1 ≤ d from hcd))
theorem cnt_sur {h : Int32} {n d : Nat} (hd : d < cnt n h) : ∃ c, c < n ∧ bt h c = true ∧ cnt c h = d := by
  induction n with
  | zero => exact absurd hd (Nat.not_lt_zero _)
  | succ n ih =>
    by_cases e : d < cnt n h
    · obtain ⟨c, h1, h2, h3⟩ := ih e
      exact ⟨c, by omega, h2, h3⟩
    · cases hb : bt h n with
      | true => rw [cnt_t hb] at hd; exact ⟨n, by omega, hb, by omega⟩
      | false => rw [cnt_f hb] at hd; omega
theorem cnt_low {h : Int32} {n m : Nat} (hl : low n h) (hnm : n ≤ m) : cnt m h = cnt n h := by
  induction m with
  | zero => rw [show n = 0 by omega]
  | succ m ih =>
    by_cases e : n = m + 1
    · rw [e]
    · rw [cnt_f (hl m (by omega)), ih (by omega)]
def CmC (X : Nat → Nat → Int32) (b : Nat) (h K : Int32) (n t u : Nat → Int32) (C : Nat) : Prop := (∀ d, bt (X b 0) d = decide (d < cnt C h)) ∧ X b 1 = K ∧ (∀ c, c < C → bt h c = true → X (b + 1) (cnt c h) = n c ∧ X (b + 2) (cnt c h) = t c ∧ ∀ k, k < 20 → X (b + 3) (9 * k + cnt c h) = u (9 * k + c)) ∧ (∀ k d, k < 20 → cnt C h ≤ d → d < 9 → X (b + 3) (9 * k + d) = nI 9999)
theorem CmC.skip {X : Nat → Nat → Int32} {b C : Nat} {h K : Int32} {n t u : Nat → Int32} (H : CmC X b h K n t u C) (hb : bt h C = false) : CmC X b h K n t u (C + 1) := by
  obtain ⟨h1, h2, h3, h4⟩ := H
  refine ⟨fun d => by rw [cnt_f hb]; exact h1 d, h2, fun c hc hbc => ?_, fun k d hk hd hd9 => h4 k d hk (by rw [cnt_f hb] at hd; exact hd) hd9⟩
  by_cases e : c = C
  · rw [e, hb] at hbc; cases hbc
  · exact h3 c (by omega) hbc
theorem CmC.put {X X1 : Nat → Nat → Int32} {b C : Nat} {h K : Int32} {n t u : Nat → Int32} (H : CmC X b h K n t u C) (hb : bt h C = true) (hC : C < 9) (e0 : ∀ d, bt (X1 b 0) d = (bt (X b 0) d || decide (d = cnt C h))) (e1 : X1 b 1 = X b 1) (e2 : ∀ j, X1 (b + 1) j = if j = cnt C h then n C else X (b + 1) j) (e3 : ∀ j, X1 (b + 2) j = if j = cnt C h then t C else X (b + 2) j) (e4 : ∀ k j, k < 20 → j < 9 → X1 (b + 3) (9 * k + j) = if j = cnt C h then u (9 * k + C) else X (b + 3) (9 * k + j)) : CmC X1 b h K n t u (C + 1) := by
  obtain ⟨h1, h2, h3, h4⟩ := H
  have l9 := cnt_le C h
  refine ⟨fun d => ?_, by rw [e1]; exact h2, fun c hc hbc => ?_, fun k d hk hd hd9 => ?_⟩
  · rw [e0, h1, cnt_t hb]
    by_cases q : d = cnt C h
    · rw [decide_eq_true q, decide_eq_true (show d < cnt C h + 1 by omega), Bool.or_true]
    · rw [decide_eq_false q, Bool.or_false]
      by_cases q2 : d < cnt C h
      · rw [decide_eq_true q2, decide_eq_true (show d < cnt C h + 1 by omega)]
      · rw [decide_eq_false q2, decide_eq_false (show ¬ d < cnt C h + 1 by omega)]
  · by_cases e : c = C
    · subst e
      refine ⟨by rw [e2, if_pos rfl], by rw [e3, if_pos rfl], fun k hk => by rw [e4 k _ hk (by omega), if_pos rfl]⟩
    · have lt := cnt_lt2 (h := h) (show c < C by omega) hbc
      obtain ⟨g1, g2, g3⟩ := h3 c (by omega) hbc
      refine ⟨by rw [e2, if_neg (by omega)]; exact g1, by rw [e3, if_neg (by omega)]; exact g2, fun k hk => by rw [e4 k _ hk (by omega), if_neg (by omega)]; exact g3 k hk⟩
  · rw [cnt_t hb] at hd
    rw [e4 k d hk hd9, if_neg (by omega)]
    exact h4 k d hk (by omega) hd9
theorem c_bm64 {σ : Sh} {X : Mx} {s L R g p c : Nat} {k2 : Mx → Int32 → Int32 → Option Mx} (hs : stOK σ s L R) (hg : tabOK σ g) (hd : s + 16 < g) (hp : p < 9) (hc : c < 9) : ∃ X1, f_X5_becomeMerged_64 k2 σ s g (nI p) (nI c) FU X (nI 0) = k2 X1 (nI (p + 1)) (nI (c + 1)) ∧ X1.2 = X.2 ∧ (∀ q, q ≠ s + 4 → X1.1 q = X.1 q) ∧ (∀ k j, k < 20 → j < 9 → X1.1 (s + 4) (9 * k + j) = if j = p then X.1 (g + 3) (9 * k + c) else X.1 (s + 4) (9 * k + j)) := by
  obtain ⟨n, S, e, w1, w2, w3⟩ := up_loop (fun n (S : Mx) k => f_X5_becomeMerged_64 k2 σ s g (nI p) (nI c) n S (nI k)) 20 (fun k S => S.2 = X.2 ∧ (∀ q, q ≠ s + 4 → S.1 q = X.1 q) ∧ (∀ k' j, k' < 20 → j < 9 → S.1 (s + 4) (9 * k' + j) = if k' < k ∧ j = p then X.1 (g + 3) (9 * k' + c) else X.1 (s + 4) (9 * k' + j))) (by
    intro n k S hk ⟨h1, h2, h3⟩
    refine ⟨sI S (s + 4) (9 * k + p) (X.1 (g + 3) (9 * k + c)), ?_, h1, fun q hq => by rw [sI_ne hq]; exact h2 q hq, fun k' j hk' hj => ?_⟩
    · show f_X5_becomeMerged_64 k2 σ s g (nI p) (nI c) (n + 1) S (nI k) = f_X5_becomeMerged_64 k2 σ s g (nI p) (nI c) n _ (nI (k + 1))
      rw [f_X5_becomeMerged_64]
      simp only [litM]
      rw [if_neg (by rw [n_le (by omega) (by omega)]; omega)]
      simp only [ldR, hs.1, hs.2.1, if_true, Option.bind_some]
      rw [s_numberAt hg hk hc, Option.bind_some, s_putNumber hs.2.2.2.2.2.2.2.2.1 hk hp, Option.bind_some, nI_add, h2 (g + 3) (by omega)]
    · by_cases q : k' = k ∧ j = p
      · obtain ⟨rfl, rfl⟩ := q
        rw [sI_eq, if_pos (by omega)]
      · rw [sI_nk (by omega), h3 k' j hk' hj]
        by_cases q2 : k' < k ∧ j = p
        · rw [if_pos q2, if_pos (by omega)]
        · rw [if_neg q2, if_neg (by omega)]) FU 0 X (by omega) ⟨rfl, fun _ _ => rfl, fun k' c _ _ => by rw [if_neg (by omega)]⟩ (by rw [FU_40000]; omega)
  refine ⟨S, ?_, w1, w2, fun k j hk hj => by
    rw [w3 k j hk hj]
    by_cases q : j = p
    · rw [if_pos ⟨hk, q⟩, if_pos q]
    · rw [if_neg (fun h => q h.2), if_neg q]⟩
  refine Eq.trans e ?_
  show f_X5_becomeMerged_64 k2 σ s g (nI p) (nI c) (n + 1) S (nI 20) = _
  rw [f_X5_becomeMerged_64]
  refine Eq.trans (if_pos (Int32.le_refl _)) ?_
  unfold f_X5_becomeMerged_97
  simp only [litM, nI_add]
theorem c_bm27 {σ : Sh} {X : Mx} {s L R g : Nat} (hs : stOK σ s L R) (hg : tabOK σ g) (hd : s + 16 < g) (h0 : X.1 (s + 1) 0 = nI 0) (h9 : ∀ j, j < 180 → X.1 (s + 4) j = nI 9999) : ∃ X1, f_X5_becomeMerged_27 σ s g FU X (nI 0) (nI 0) = f_X5_startSides σ X1 s ∧ X1.2 = X.2 ∧ (∀ q, (q < s + 1 ∨ s + 4 < q) → X1.1 q = X.1 q) ∧ CmC X1.1 (s + 1) (X.1 g 0) (X.1 (s + 1) 1) (X.1 (g + 1)) (X.1 (g + 2)) (X.1 (g + 3)) 9 := by
  obtain ⟨n, S, e, w1, w2, w3⟩ := up_loop (fun n (S : Mx) c => f_X5_becomeMerged_27 σ s g n S (nI (cnt c (X.1 g 0))) (nI c)) 9 (fun c S => S.2 = X.2 ∧ (∀ q, (q < s + 1 ∨ s + 4 < q) → S.1 q = X.1 q) ∧ CmC S.1 (s + 1) (X.1 g 0) (X.1 (s + 1) 1) (X.1 (g + 1)) (X.1 (g + 2)) (X.1 (g + 3)) c) (by
    intro n c S hc ⟨h1, h2, h3⟩
    have hb := hs.2.2.2.2.2.2.2.2.1
    have l9 := cnt_le c (X.1 g 0)
    cases e : bt (X.1 g 0) c with
    | false =>
      refine ⟨S, ?_, h1, h2, h3.skip e⟩
      show f_X5_becomeMerged_27 σ s g (n + 1) S _ (nI c) = f_X5_becomeMerged_27 σ s g n S (nI (cnt (c + 1) (X.1 g 0))) (nI (c + 1))
      rw [f_X5_becomeMerged_27]
      simp only [litM]
      rw [if_neg (by rw [n_le (by omega) (by omega)]; omega), s_hasColumn hg, Option.bind_some, inB_n hc (by omega), h2 g (by omega), e, if_pos bI_f, cnt_f e]
      unfold f_X5_becomeMerged_97
      simp only [litM, nI_add]
    | true =>
      obtain ⟨S1, hS1⟩ : ∃ S1, S1 = sI (sI (sI S (s + 1) 0 (S.1 (s + 1) 0 ||| ((1 : Int32) <<< (nI (cnt c (X.1 g 0)) &&& 31)))) (s + 1 + 1) (cnt c (X.1 g 0)) (X.1 (g + 1) c)) (s + 1 + 2) (cnt c (X.1 g 0)) (X.1 (g + 2) c) := ⟨_, rfl⟩
      obtain ⟨S2, f1, f2, f3, f4⟩ := c_bm64 (X := S1) (p := cnt c (X.1 g 0)) (c := c) (k2 := f_X5_becomeMerged_27 σ s g n) hs hg hd (by omega) hc
      have q1 : ∀ q, (q < s + 1 ∨ s + 4 < q) → S1.1 q = X.1 q := fun q hq => by rw [hS1, sI_ne (by omega), sI_ne (by omega), sI_ne (by omega)]; exact h2 q hq
      refine ⟨S2, ?_, by rw [f2, hS1]; exact h1, fun q hq => by rw [f3 q (by omega)]; exact q1 q hq, ?_⟩
      · show f_X5_becomeMerged_27 σ s g (n + 1) S _ (nI c) = f_X5_becomeMerged_27 σ s g n S2 (nI (cnt (c + 1) (X.1 g 0))) (nI (c + 1))
        rw [f_X5_becomeMerged_27]
        obtain ⟨h1, h2, h3, h4, h5, h6, h7, h8, h9, h10⟩ := hg
        simp only [litM]
        rw [if_neg (by rw [n_le (by omega) (by omega)]; omega), s_hasColumn ⟨h1, h2, h3, h4, h5, h6, h7, h8, h9, h10⟩, Option.bind_some, inB_n hc (by omega)]
        rw [‹∀ q, (q < s + 1 ∨ s + 4 < q) → S.1 q = X.1 q› g (by omega), e, if_neg (by decide)]
        simp only [ldR, hs.1, hs.2.1, h1, h2, h3, if_true, Option.bind_some]
        rw [ldA_t h5 (by omega) (by omega), ldA_t h7 (by omega) (by omega), s_putColumn hb (by omega), Option.bind_some]
        rw [‹∀ q, (q < s + 1 ∨ s + 4 < q) → S.1 q = X.1 q› (g + 1) (by omega), ‹∀ q, (q < s + 1 ∨ s + 4 < q) → S.1 q = X.1 q› (g + 2) (by omega), ← hS1, cnt_t e]
        exact f1
      · refine h3.put e hc (fun d => ?_) ?_ (fun j => ?_) (fun j => ?_) (fun k j hk hj => ?_)
        · rw [f3 _ (by omega), hS1, sI_na (by omega), sI_na (by omega), sI_eq, bt_set (by omega)]
        · rw [f3 _ (by omega), hS1, sI_na (by omega), sI_na (by omega), sI_nk (by omega)]
        · rw [f3 _ (by omega), hS1, sI_na (by omega)]
          by_cases q : j = cnt c (X.1 g 0)
          · rw [q, sI_eq, if_pos rfl]
          · rw [sI_nk q, sI_na (by omega), if_neg q]
        · rw [f3 _ (by omega), hS1]
          by_cases q : j = cnt c (X.1 g 0)
          · rw [q, sI_eq, if_pos rfl]
          · rw [sI_nk q, sI_na (by omega), sI_na (by omega), if_neg q]
        · refine (f4 k j hk hj).trans ?_
          rw [q1 (g + 3) (by omega), hS1, sI_na (by omega), sI_na (by omega), sI_na (by omega)]) FU 0 X (by omega) ⟨rfl, fun _ _ => rfl, fun d => by rw [h0, show (nI 0 : Int32) = 0 from rfl, bt_zero]; exact (decide_eq_false (Nat.not_lt_zero _)).symm, rfl, fun c hc => absurd hc (Nat.not_lt_zero _), fun k d hk _ hd => h9 _ (by omega)⟩ (by rw [FU_40000]; omega)
  refine ⟨S, ?_, w1, w2, w3⟩
  refine Eq.trans e ?_
  show f_X5_becomeMerged_27 σ s g (n + 1) S _ (nI 9) = _
  rw [f_X5_becomeMerged_27]
  refine Eq.trans (if_pos (Int32.le_refl _)) ?_
  cases f_X5_startSides σ S s <;> rfl
