/-! ===== reading: words ===== -/
def cw (w j : Nat) : Nat := ((wB w).getD j 0).toNatClampNeg
def cdw (w : Nat) : Nat := cd (cw w) 0 (wN w)
def pw (i : Nat) : Nat := if i < 4 then 14 + i else i - 4
theorem w_len : ∀ w, w < 18 → Int32.ofNat (wN w) >>> ((0 : Int32) &&& 31) = nI (wN w) ∧ 2 ≤ wN w ∧ wN w ≤ 6 := by decide +kernel
theorem w_chr : ∀ w, w < 18 → ∀ j, j < 6 → j < wN w → wC w (nI j) = nI (cw w j) ∧ knd (cw w j) = 1 ∧ cw w j < 256 ∧ ¬ (nI j < 0) ∧ (nI j).toNatClampNeg = j := by decide +kernel
theorem w_let : ∀ i, i < 18 → f_X10_letters (nI i) = nJ (cdw (pw i)) ∧ pw i < 18 := by decide +kernel
theorem w_inj : ∀ i, i < 18 → ∀ j, j < 18 → cdw i = cdw j → i = j := by decide +kernel
theorem w_max : ∀ i, i < 18 → cdw i < 2 ^ 30 := by decide +kernel
theorem pw_inj : ∀ w, w < 18 → ∃ i, i < 18 ∧ pw i = w := by decide +kernel
theorem lg_eq (x y : Int64) : (lg_cmp x y = nI 0) = (x = y) := by
  unfold lg_cmp
  by_cases h1 : x > y
  · rw [if_pos h1]
    refine propext ⟨fun h => absurd h (by decide), fun h => ?_⟩
    rw [h] at h1
    exact (Int64.lt_irrefl h1).elim
  · rw [if_neg h1]
    by_cases h2 : x = y
    · rw [if_pos h2]; exact propext ⟨fun _ => h2, fun _ => rfl⟩
    · rw [if_neg h2]; exact propext ⟨fun h => absurd h (by decide), fun h => absurd h h2⟩
theorem nJ_inj {a b : Nat} (ha : a < 2 ^ 30) (hb : b < 2 ^ 30) : (nJ a = nJ b) = (a = b) := by
  refine propext ⟨fun h => ?_, fun h => by rw [h]⟩
  have := congrArg (fun z : Int64 => z.toBitVec.toNat) h
  have e : ∀ a, a < 2 ^ 30 → (nJ a).toBitVec.toNat = a := fun a ha => by
    show (BitVec.ofNat 64 a).toNat = a
    rw [BitVec.toNat_ofNat, Nat.mod_eq_of_lt (by omega)]
  exact (e a ha).symm.trans (this.trans (e b hb))
theorem cd_inj {f g : Nat → Nat} {s t : Nat} : ∀ n k, (∀ j, j < n → knd (f (s + j)) = 1) → (∀ j, j < k → knd (g (t + j)) = 1) → cd f s n = cd g t k → n = k ∧ ∀ j, j < n → f (s + j) = g (t + j) := by
  intro n
  induction n with
  | zero =>
    intro k hf hg h
    cases k with
    | zero => exact ⟨rfl, fun j hj => absurd hj (Nat.not_lt_zero _)⟩
    | succ k =>
      have := knd_l (hg k (by omega))
      rw [cd, cd] at h
      omega
  | succ n ih =>
    intro k hf hg h
    have a := knd_l (hf n (by omega))
    cases k with
    | zero => rw [cd, cd] at h; omega
    | succ k =>
      have b := knd_l (hg k (by omega))
      rw [cd, cd] at h
      obtain ⟨e1, e2⟩ := ih k (fun j hj => hf j (by omega)) (fun j hj => hg j (by omega)) (by omega)
      subst e1
      refine ⟨rfl, fun j hj => ?_⟩
      by_cases e : j = n
      · rw [e]; omega
      · exact e2 j (by omega)
theorem cd_ext {f g : Nat → Nat} {s t : Nat} : ∀ n, (∀ j, j < n → f (s + j) = g (t + j)) → cd f s n = cd g t n := by
  intro n
  induction n with
  | zero => intro _; rfl
  | succ n ih => intro h; rw [cd, cd, ih (fun j hj => h j (by omega)), h n (by omega)]
theorem slen_t {ρ : Type} {w : Nat} {cont : Int32 → Option ρ} (hw : w < 18) : slen w cont = cont (nI (wN w)) := by
  unfold slen
  rw [if_pos hw, (w_len w hw).1]
theorem schr_t {ρ : Type} {w j : Nat} {cont : Int32 → Option ρ} (hw : w < 18) (hj : j < wN w) : schr w (nI j) cont = cont (nI (cw w j)) := by
  have := (w_len w hw).2.2
  obtain ⟨c1, -, -, c2, c3⟩ := w_chr w hw j (by omega) hj
  unfold schr
  rw [if_pos ⟨hw, fun h => h.elim c2 (fun h => by rw [c3] at h; omega)⟩, c1]
theorem s_isWord {σ : Sh} {X : Mx} {tp st be w : Nat} (hp : tpOK σ tp) (hw : w < 18) (h7 : X.1 tp 7 = nI st) (h8 : X.1 tp 8 = nI be) (hst : st ≤ be) (hbe : be ≤ 700) : f_X7_isWord σ X tp w = some (bI (decide (X.1 tp 6 = nI 1) && decide (be - st = wN w) && !anyB (fun j => decide (X.1 (tp + 1) (st + j) ≠ nI (cw w j))) (wN w))) := by
  obtain ⟨t0, t1, t2, t3, t4, t5⟩ := hp
  unfold f_X7_isWord
  simp only [litM]
  rw [grd_t t0, ldI_t t0]
  by_cases q : X.1 tp 6 = nI 1
  · rw [if_pos q, ldI_t t0, ldI_t t0, h7, h8, slen_t hw, sub_n hst, decide_eq_true q, Bool.true_and]
    have wl := (w_len w hw).2
    by_cases q2 : be - st = wN w
    · rw [if_pos (by rw [q2]), decide_eq_true q2, Bool.true_and]
      have key : ∀ r k N, k + r = wN w → r < N → anyB (fun j => decide (X.1 (tp + 1) (st + j) ≠ nI (cw w j))) k = false → f_X7_isWord_28 σ X tp w N (nI k) = some (bI (!anyB (fun j => decide (X.1 (tp + 1) (st + j) ≠ nI (cw w j))) (wN w))) := by
        intro r
        induction r with
        | zero =>
          intro k N hk hN ha
          obtain ⟨N, rfl⟩ : ∃ N', N = N' + 1 := ⟨N - 1, by omega⟩
          rw [f_X7_isWord_28]
          simp only [litM]
          rw [slen_t hw, if_pos (by rw [n_le (by omega) (by omega)]; omega), show wN w = k by omega, ha]
          rfl
        | succ r ih =>
          intro k N hk hN ha
          obtain ⟨N, rfl⟩ : ∃ N', N = N' + 1 := ⟨N - 1, by omega⟩
          rw [f_X7_isWord_28]
          simp only [litM]
          rw [slen_t hw, if_neg (by rw [n_le (by omega) (by omega)]; omega), ldI_t t0, h7, nI_add, if_neg (by rw [n_le (by omega) (by omega)]; omega)]
          simp only [ldR, t0, t1, if_true, Option.bind_some]
          rw [ldI_t t0, h7, nI_add, ldA_t t3 (by omega) (by omega), schr_t hw (by omega), nI_add]
          by_cases q3 : X.1 (tp + 1) (st + k) = nI (cw w k)
          · rw [if_pos q3]
            exact ih (k + 1) N (by omega) (by omega) (by rw [anyB, ha, Bool.false_or]; exact decide_eq_false (fun h => h q3))
          · rw [if_neg q3, anyB_t (show k < wN w by omega) (decide_eq_true q3)]
            rfl
      exact key (wN w) 0 FU (by omega) (by rw [FU_40000]; omega) rfl
    · rw [if_neg (nI_ne q2 (by omega) (by omega)), decide_eq_false q2]; rfl
  · rw [if_neg q, decide_eq_false q]; rfl
theorem TokR.k8 {X Y : Mx} {tp m e st be : Nat} {β : Nat → Nat} (h : TokR X Y tp m e β st be) : (X.1 tp 6 = nI 1 ∧ Y.1 m 8 = nI 1 ∧ st < be ∧ (∀ j, st ≤ j → j < be → knd (β j) = 1) ∧ Y.2 m 13 = nJ (cd β st (min (be - st) 6))) ∨ (¬ X.1 tp 6 = nI 1 ∧ ¬ Y.1 m 8 = nI 1) := by
  rcases h.2.2.2.2.2.2.2 with ⟨-, h1, h2⟩ | ⟨h0, h1, h2, h3, h4⟩ | ⟨-, h1, h2, -⟩ | ⟨-, h1, -, -, h2⟩
  · exact Or.inr ⟨by rw [h1]; decide, by rw [h2]; decide⟩
  · exact Or.inl ⟨h1, h2, h0, h3, h4⟩
  · exact Or.inr ⟨by rw [h1]; decide, by rw [h2]; decide⟩
  · refine Or.inr ⟨by rw [h1]; decide, ?_⟩
    rw [h2]
    split <;> decide
/-- the word that a token is, in both -/
theorem known_both {σ τ : Sh} {X Y : Mx} {tp m e st be : Nat} {β : Nat → Nat} (hp : tpOK σ tp) (hm : mdOK τ m) (hB : BR X.1 Y.1 tp m e β) (h : TokR X Y tp m e β st be) : (∃ i, i < 18 ∧ f_X10_knownWord τ Y m = some (nI i) ∧ ∀ w, w < 18 → f_X7_isWord σ X tp w = some (bI (decide (w = pw i)))) ∨ (f_X10_knownWord τ Y m = some (-(nI 1)) ∧ ∀ w, w < 18 → f_X7_isWord σ X tp w = some (nI 0)) := by
  have m0 := hm.1
  have he := hB.1
  obtain ⟨r1, r2, r3, r4, r5, r6, r7, -⟩ := id h
  rcases h.k8 with ⟨x6, y8, hlt, hl, hc⟩ | ⟨x6, y8⟩
  · by_cases q : be - st = 1 ∨ 6 < be - st
    · refine Or.inr ⟨?_, fun w hw => ?_⟩
      · unfold f_X10_knownWord
        simp only [litM]
        rw [grd_t m0, ldI_t m0, y8, if_pos rfl, ldI_t m0, r7]
        by_cases q6 : 6 < be - st
        · rw [if_pos (by rw [n_lt (by omega) (by omega)]; exact q6)]
        · rw [if_neg (by rw [n_lt (by omega) (by omega)]; exact q6), ldI_t m0, r7, if_pos (by rw [q.resolve_right q6])]
      · have wl := (w_len w hw).2
        rw [s_isWord hp hw r3 r4 r1 (by omega), decide_eq_false (show ¬ be - st = wN w by omega), Bool.and_false, Bool.false_and]
        rfl
    · have mn : min (be - st) 6 = be - st := by omega
      rw [mn] at hc
      have hl' : ∀ j, j < be - st → knd (β (st + j)) = 1 := fun j hj => hl _ (by omega) (by omega)
      have cl : cd β st (be - st) < 2 ^ 30 := by
        have c1 := cd_lt (β := β) (s := st) (n := be - st) hl'
        have c2 : 32 ^ (be - st) ≤ 32 ^ 6 := Nat.pow_le_pow_right (by omega) (by omega)
        omega
      have wi : ∀ w, w < 18 → f_X7_isWord σ X tp w = some (bI (decide (cd β st (be - st) = cdw w))) := fun w hw => by
        rw [s_isWord hp hw r3 r4 r1 (by omega), decide_eq_true x6, Bool.true_and]
        have wl := (w_len w hw).2
        have wk : ∀ j, j < wN w → knd (cw w (0 + j)) = 1 := fun j hj => by rw [Nat.zero_add]; exact (w_chr w hw j (by omega) hj).2.1
        by_cases e : cd β st (be - st) = cdw w
        · obtain ⟨e1, e2⟩ := cd_inj (be - st) (wN w) hl' wk e
          have hx : ∀ j, j < wN w → X.1 (tp + 1) (st + j) = nI (cw w j) := fun j hj => by
            have := e2 j (by omega)
            rw [Nat.zero_add] at this
            have b := hB.2 (st + j) (by omega)
            rw [b.2.2, by_same _ b.1 (by rw [hl' j (by omega)]; omega), this]
          have ha : anyB (fun j => decide (X.1 (tp + 1) (st + j) ≠ nI (cw w j))) (wN w) = false := anyB_f (fun j hj => decide_eq_false (fun h => h (hx j hj)))
          have l : (decide (be - st = wN w) && !anyB (fun j => decide (X.1 (tp + 1) (st + j) ≠ nI (cw w j))) (wN w)) = true := by
            rw [ha]; exact (Bool.and_true _).trans (decide_eq_true e1)
          exact congrArg (fun z => some (bI z)) (l.trans (decide_eq_true e).symm)
        · rw [decide_eq_false e]
          by_cases e1 : be - st = wN w
          · rw [decide_eq_true e1, Bool.true_and]
            have : ∃ j, j < wN w ∧ X.1 (tp + 1) (st + j) ≠ nI (cw w j) := by
              refine Classical.byContradiction (fun hn => e ?_)
              unfold cdw
              rw [e1]
              refine cd_ext _ (fun j hj => ?_)
              rw [Nat.zero_add]
              have b := hB.2 (st + j) (by omega)
              have hx : X.1 (tp + 1) (st + j) = nI (cw w j) := Classical.byContradiction (fun hq => hn ⟨j, hj, hq⟩)
              rw [b.2.2, by_same _ b.1 (by rw [hl' j (by omega)]; omega)] at hx
              have c := (w_chr w hw j (by omega) hj).2.2.1
              exact nI_inj (by omega) (by omega) hx
            obtain ⟨j, hj, hx⟩ := this
            rw [anyB_t hj (decide_eq_true hx)]
            rfl
          · rw [decide_eq_false e1]; rfl
      have kn : f_X10_knownWord τ Y m = f_X10_knownWord_29 τ Y m FU (nI 0) := by
        unfold f_X10_knownWord
        simp only [litM]
        rw [grd_t m0, ldI_t m0, y8, if_pos rfl, ldI_t m0, r7, if_neg (by rw [n_lt (by omega) (by omega)]; omega), ldI_t m0, r7, if_neg (nI_ne (by omega) (by omega) (by omega))]
      have ks : ∀ n k, k < 18 → f_X10_knownWord_29 τ Y m (n + 1) (nI k) = if decide (cdw (pw k) ≠ cd β st (be - st)) = true then f_X10_knownWord_29 τ Y m n (nI (k + 1)) else some (nI k) := fun n k hk => by
        rw [f_X10_knownWord_29]
        simp only [litM]
        rw [if_neg (by rw [n_le (by omega) (by omega)]; omega), ldJ_t m0, hc, (w_let k hk).1, nI_add]
        have eq : (lg_cmp (nJ (cdw (pw k))) (nJ (cd β st (be - st))) = nI 0) = (cdw (pw k) = cd β st (be - st)) := by rw [lg_eq, nJ_inj (w_max _ (w_let k hk).2) cl]
        by_cases e : cdw (pw k) = cd β st (be - st)
        · rw [if_pos (by rw [eq]; exact e), if_neg (by rw [decide_eq_false (fun h => h e)]; decide)]
        · rw [if_neg (by rw [eq]; exact e), if_pos (decide_eq_true e)]
      by_cases ex : ∃ i, i < 18 ∧ cdw (pw i) = cd β st (be - st)
      · obtain ⟨i, hi, hic⟩ := ex
        refine Or.inl ⟨i, hi, ?_, fun w hw => ?_⟩
        · rw [kn]
          exact find_loop (F := fun n k => f_X10_knownWord_29 τ Y m n (nI k)) (G := fun k => some (nI k)) (N := 18) (p := fun k => decide (cdw (pw k) ≠ cd β st (be - st))) hi (decide_eq_false (fun h => h hic)) (fun k hk => decide_eq_true (fun h => by
            have := w_inj _ (w_let k (by omega)).2 _ (w_let i hi).2 (h.trans hic.symm)
            unfold pw at this
            split at this <;> split at this <;> omega)) ks FU 0 (by omega) (by rw [FU_40000]; omega)
        · rw [wi w hw]
          refine congrArg (fun z => some (bI z)) ?_
          by_cases e : w = pw i
          · rw [decide_eq_true e, e, hic]; exact decide_eq_true rfl
          · rw [decide_eq_false e]
            exact decide_eq_false (fun h => e (w_inj w hw _ (w_let i hi).2 (h.symm.trans hic.symm)))
      · refine Or.inr ⟨?_, fun w hw => ?_⟩
        · rw [kn]
          obtain ⟨n, s, e1, -⟩ := up_loop (fun n (_ : Unit) k => f_X10_knownWord_29 τ Y m n (nI k)) 18 (fun _ _ => True) (by
            intro n k s hk _
            refine ⟨(), ?_, trivial⟩
            refine (ks n k hk).trans ?_
            exact if_pos (decide_eq_true (show cdw (pw k) ≠ cd β st (be - st) from fun h => ex ⟨k, hk, h⟩))) FU 0 () (by omega) trivial (by rw [FU_40000]; omega)
          refine Eq.trans e1 ?_
          show f_X10_knownWord_29 τ Y m (n + 1) (nI 18) = _
          rw [f_X10_knownWord_29]
          exact if_pos (Int32.le_refl _)
        · rw [wi w hw, decide_eq_false (fun h => ?_)]
          · rfl
          · obtain ⟨i, hi, e⟩ := pw_inj w hw
            exact ex ⟨i, hi, by rw [e]; exact h.symm⟩
  · refine Or.inr ⟨?_, fun w hw => ?_⟩
    · unfold f_X10_knownWord
      simp only [litM]
      rw [grd_t m0, ldI_t m0, if_neg y8]
    · rw [s_isWord hp hw r3 r4 r1 (by omega), decide_eq_false x6]; rfl
