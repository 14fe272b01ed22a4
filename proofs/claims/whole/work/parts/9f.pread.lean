/-! ===== reading: bytes and tokens ===== -/
def sx (k : Nat) : Int32 := (nI k).toInt8.toInt32
def knd (k : Nat) : Nat := if 97 ≤ k ∧ k ≤ 122 then 1 else if 48 ≤ k ∧ k ≤ 57 then 2 else 3
theorem byte_ex {v : Int32} (h : v = v.toInt8.toInt32) : ∃ k, k < 256 ∧ v &&& nI 255 = nI k ∧ v = sx k := by
  obtain ⟨k, h1, h2⟩ := low_n (n := 8) (w := v &&& nI 255) (by omega) (fun d hd => by
    rw [bt_and, bt_n (by omega), Nat.testBit_lt_two_pow (Nat.lt_of_lt_of_le (show 255 < 2 ^ 8 by omega) (Nat.pow_le_pow_right (by omega) hd)), Bool.and_false])
  refine ⟨k, by omega, h2, ?_⟩
  unfold sx
  rw [← h2]
  refine h.trans (congrArg Int8.toInt32 (Int8.toBitVec_inj.1 ?_))
  have hb : ∀ i, i < 32 → (255#32).getLsbD i = decide (i < 8) := by decide
  refine BitVec.eq_of_getLsbD_eq fun i hi => ?_
  show (v.toBitVec.signExtend 8).getLsbD i = ((v.toBitVec &&& 255#32).signExtend 8).getLsbD i
  rw [BitVec.getLsbD_signExtend, BitVec.getLsbD_signExtend, BitVec.getLsbD_and, hb i (by omega)]
  simp [hi, show i < 32 by omega]
theorem by_kind : ∀ k, k < 256 → f_X7_kindOf (sx k) = nI (knd k) ∧ f_X10_isLetter (nI k) = bI (decide (knd k = 1)) ∧ f_X10_isDigit (nI k) = bI (decide (knd k = 2)) := by decide +kernel
theorem by_sign : ∀ k, k < 256 → (sx k = nI 32 ↔ k = 32) ∧ (sx k = nI 10 ↔ k = 10) ∧ (sx k = nI 59 ↔ k = 59) ∧ (sx k = nI 95 ↔ k = 95) ∧ (sx k = nI 45 ↔ k = 45) := by decide +kernel
theorem by_same : ∀ k, k < 256 → knd k ≠ 3 → sx k = nI k := by decide +kernel
theorem knd_l {k : Nat} (h : knd k = 1) : 97 ≤ k ∧ k ≤ 122 := by
  unfold knd at h
  split at h
  · assumption
  · split at h <;> omega
theorem knd_d {k : Nat} (h : knd k = 2) : 48 ≤ k ∧ k ≤ 57 := by
  unfold knd at h
  split at h
  · omega
  · split at h
    · assumption
    · omega
theorem knd_3 (k : Nat) : knd k = 1 ∨ knd k = 2 ∨ knd k = 3 := by
  unfold knd
  split
  · exact Or.inl rfl
  · split
    · exact Or.inr (Or.inl rfl)
    · exact Or.inr (Or.inr rfl)
def nJ (k : Nat) : Int64 := Int64.ofNat k
def cd (β : Nat → Nat) (s : Nat) : Nat → Nat
  | 0 => 0
  | n + 1 => 32 * cd β s n + (β (s + n) - 96)
def vl (β : Nat → Nat) (s : Nat) : Nat → Nat
  | 0 => 0
  | n + 1 => 10 * vl β s n + (β (s + n) - 48)
theorem cd_lt {β : Nat → Nat} {s n : Nat} (h : ∀ j, j < n → knd (β (s + j)) = 1) : cd β s n < 32 ^ n := by
  induction n with
  | zero => exact Nat.one_pos
  | succ n ih =>
    have := ih (fun j hj => h j (by omega))
    have k := knd_l (h n (by omega))
    rw [cd, Nat.pow_succ]
    omega
theorem vl_lt {β : Nat → Nat} {s n : Nat} (h : ∀ j, j < n → knd (β (s + j)) = 2) : vl β s n < 10 ^ n := by
  induction n with
  | zero => exact Nat.one_pos
  | succ n ih =>
    have := ih (fun j hj => h j (by omega))
    have k := knd_d (h n (by omega))
    rw [vl, Nat.pow_succ]
    omega
theorem nJ_add {c b : Nat} (hc : c < 2 ^ 30) (hb : 97 ≤ b ∧ b ≤ 122) : (nJ c <<< (Int32.toInt64 (nI 5) &&& 63)) ||| (Int32.toInt64 (nI b - nI 96)) = nJ (32 * c + (b - 96)) := by
  have e1 : Int32.toInt64 (nI b - nI 96) = nJ (b - 96) := by
    have : ∀ b, b < 123 → 97 ≤ b → Int32.toInt64 (nI b - nI 96) = nJ (b - 96) := by decide +kernel
    exact this b (by omega) hb.1
  rw [e1]
  apply Int64.toBitVec_inj.1
  rw [Int64.toBitVec_or, Int64.toBitVec_shiftLeft]
  show (BitVec.ofNat 64 c <<< ((Int32.toInt64 (nI 5) &&& 63).toBitVec.smod 64)) ||| BitVec.ofNat 64 (b - 96) = BitVec.ofNat 64 (32 * c + (b - 96))
  rw [show ((Int32.toInt64 (nI 5) &&& 63).toBitVec.smod 64) = 5#64 from by decide]
  apply BitVec.eq_of_toNat_eq
  rw [BitVec.toNat_or, BitVec.toNat_ofNat, BitVec.toNat_ofNat, BitVec.shiftLeft_eq', BitVec.toNat_shiftLeft, BitVec.toNat_ofNat, show (5#64).toNat = 5 from rfl]
  rw [Nat.mod_eq_of_lt (show c < 2 ^ 64 by omega), Nat.mod_eq_of_lt (show b - 96 < 2 ^ 64 by omega), Nat.mod_eq_of_lt (show 32 * c + (b - 96) < 2 ^ 64 by omega), Nat.mod_eq_of_lt (show c <<< 5 < 2 ^ 64 by rw [Nat.shiftLeft_eq]; omega), ← Nat.shiftLeft_add_eq_or_of_lt (show b - 96 < 2 ^ 5 by omega), Nat.shiftLeft_eq]
  omega
def BR (X Y : Nat → Nat → Int32) (tp m e : Nat) (β : Nat → Nat) : Prop := e ≤ 700 ∧ ∀ j, j < e → β j < 256 ∧ Y (m + 1) j = nI (β j) ∧ X (tp + 1) j = sx (β j)
theorem BR.fr {X Y X1 Y1 : Nat → Nat → Int32} {tp m e : Nat} {β : Nat → Nat} (h : BR X Y tp m e β) (hx : X1 (tp + 1) = X (tp + 1)) (hy : Y1 (m + 1) = Y (m + 1)) : BR X1 Y1 tp m e β := by
  unfold BR
  rw [hx, hy]
  exact h
def StF (X X1 : Mx) (tp : Nat) : Prop := X1.2 = X.2 ∧ (∀ r, r ≠ tp → X1.1 r = X.1 r) ∧ (∀ j, j ≠ 6 → j ≠ 7 → j ≠ 8 → X1.1 tp j = X.1 tp j)
def GoF (Y Y1 : Mx) (m : Nat) : Prop := (∀ r, r ≠ m → Y1.2 r = Y.2 r) ∧ (∀ r, r ≠ m → Y1.1 r = Y.1 r) ∧ (∀ j, (j < 7 ∨ 12 < j) → Y1.1 m j = Y.1 m j)
theorem StF.refl {X : Mx} {tp : Nat} : StF X X tp := ⟨rfl, fun _ _ => rfl, fun _ _ _ _ => rfl⟩
theorem StF.trans {X Y Z : Mx} {tp : Nat} (h : StF X Y tp) (k : StF Y Z tp) : StF X Z tp := ⟨k.1.trans h.1, fun r hr => (k.2.1 r hr).trans (h.2.1 r hr), fun j a b c => (k.2.2 j a b c).trans (h.2.2 j a b c)⟩
theorem StF.fld {X : Mx} {tp j : Nat} {v : Int32} (h : j = 6 ∨ j = 7 ∨ j = 8) : StF X (sI X tp j v) tp := ⟨rfl, fun r hr => sI_ne hr, fun i a b c => sI_nk (by omega)⟩
theorem GoF.refl {X : Mx} {m : Nat} : GoF X X m := ⟨fun _ _ => rfl, fun _ _ => rfl, fun _ _ => rfl⟩
theorem GoF.trans {X Y Z : Mx} {m : Nat} (h : GoF X Y m) (k : GoF Y Z m) : GoF X Z m := ⟨fun r hr => (k.1 r hr).trans (h.1 r hr), fun r hr => (k.2.1 r hr).trans (h.2.1 r hr), fun j a => (k.2.2 j a).trans (h.2.2 j a)⟩
theorem GoF.fld {X : Mx} {m j : Nat} {v : Int32} (h : 7 ≤ j ∧ j ≤ 12) : GoF X (sI X m j v) m := ⟨fun _ _ => rfl, fun r hr => sI_ne hr, fun i a => sI_nk (by omega)⟩
theorem GoF.lng {X : Mx} {m j : Nat} {v : Int64} : GoF X (sJ X m j v) m := ⟨fun r hr => funext fun i => if_neg (fun q => hr q.1), fun _ _ => rfl, fun _ _ => rfl⟩
theorem s10_byteAt {τ : Sh} {Y : Mx} {m e j : Nat} {β : Nat → Nat} (hm : mdOK τ m) (he : e ≤ 700) (h6 : Y.1 m 6 = nI e) (hj : j ≤ e) (hb : ∀ j, j < e → Y.1 (m + 1) j = nI (β j)) : f_X10_byteAt τ Y m (nI j) = some (if j < e then nI (β j) else nI 0) := by
  obtain ⟨m0, m1, m2, m3, m4, m5, m6, m7, m8, m9, m10, m11, m12, m13, m14, m15, m16, m17, mq1, mq2, mq3, mq4, mq5, mq6, mq7, mq8, mq9, mq10, mq11, mq12, mq13, mq14, mq15, mq16, mq17, mn1, mn2, mn3, mn4, mn5, mn6, mn7, mn8, mn9, mn10, mn11, mn12, mn13, mn14, mn15, mn16, mn17⟩ := hm
  unfold f_X10_byteAt
  simp only [litM]
  rw [grd_t m0, ldI_t m0, h6]
  by_cases q : j < e
  · rw [if_neg (by rw [n_le (by omega) (by omega)]; omega), if_pos q]
    simp only [ldR, m0, m1, if_true, Option.bind_some]
    rw [ldA_t mq1 (by omega) (by omega), hb j q]
  · rw [if_pos (by rw [n_le (by omega) (by omega)]; omega), if_neg q]
theorem skip_both {σ τ : Sh} {tp m e : Nat} {β : Nat → Nat} (hp : tpOK σ tp) (hm : mdOK τ m) : ∀ (r p N M : Nat) (X Y : Mx), p + r = e → r < N → r < M → BR X.1 Y.1 tp m e β → X.1 tp 5 = nI e → Y.1 m 6 = nI e → X.1 tp 7 = nI p → Y.1 m 7 = nI p → ∃ st X1 Y1, p ≤ st ∧ st ≤ e ∧ f_X7_step_8 σ tp N X = f_X7_step_60 σ tp X1 ∧ f_X10_goes_0 τ m M Y = f_X10_goes_50 τ m Y1 ∧ StF X X1 tp ∧ X1.1 tp 7 = nI st ∧ GoF Y Y1 m ∧ Y1.1 m 7 = nI st := by
  have hmm := id hm
  obtain ⟨m0, m1, m2, m3, m4, m5, m6, m7, m8, m9, m10, m11, m12, m13, m14, m15, m16, m17, mq1, mq2, mq3, mq4, mq5, mq6, mq7, mq8, mq9, mq10, mq11, mq12, mq13, mq14, mq15, mq16, mq17, mn1, mn2, mn3, mn4, mn5, mn6, mn7, mn8, mn9, mn10, mn11, mn12, mn13, mn14, mn15, mn16, mn17⟩ := hm
  obtain ⟨t0, t1, t2, t3, t4, t5⟩ := hp
  intro r
  induction r with
  | zero =>
    intro p N M X Y hr hN hM hB h5 h6 h7 h7'
    obtain ⟨N, rfl⟩ : ∃ N', N = N' + 1 := ⟨N - 1, by omega⟩
    obtain ⟨M, rfl⟩ : ∃ N', M = N' + 1 := ⟨M - 1, by omega⟩
    have he := hB.1
    refine ⟨p, X, Y, Nat.le_refl _, by omega, ?_, ?_, StF.refl, h7, GoF.refl, h7'⟩
    · rw [f_X7_step_8]
      rw [ldI_t t0, ldI_t t0, h5, h7, if_pos (by rw [n_le (by omega) (by omega)]; omega)]
    · rw [f_X10_goes_0]
      rw [ldI_t m0, ldI_t m0, h6, h7', if_pos (by rw [n_le (by omega) (by omega)]; omega)]
  | succ r ih =>
    intro p N M X Y hr hN hM hB h5 h6 h7 h7'
    obtain ⟨N, rfl⟩ : ∃ N', N = N' + 1 := ⟨N - 1, by omega⟩
    obtain ⟨M, rfl⟩ : ∃ N', M = N' + 1 := ⟨M - 1, by omega⟩
    have he := hB.1
    obtain ⟨b1, b2, b3⟩ := hB.2 p (by omega)
    obtain ⟨g1, g2, -⟩ := by_sign (β p) b1
    have ba := s10_byteAt (β := β) hmm he h6 (show p ≤ e by omega) (fun j hj => (hB.2 j hj).2.1)
    rw [if_pos (show p < e by omega)] at ba
    have cl : f_X7_step_8 σ tp (N + 1) X = if β p = 32 ∨ β p = 10 then f_X7_step_8 σ tp N (sI X tp 7 (nI (p + 1))) else f_X7_step_60 σ tp X := by
      rw [f_X7_step_8]
      unfold f_X7_step_47
      simp only [litM]
      rw [ldI_t t0, ldI_t t0, h5, h7, if_neg (by rw [n_le (by omega) (by omega)]; omega)]
      simp only [ldR, t0, t1, if_true, Option.bind_some]
      rw [ldI_t t0, h7, ldA_t t3 (by omega) (by omega), b3, ldI_t t0, h7, stI_t t0, nI_add, ldI_t t0, h7, ldA_t t3 (by omega) (by omega), b3]
      by_cases q1 : β p = 32
      · rw [if_pos (g1.2 q1), if_pos (Or.inl q1)]
      · rw [if_neg (fun q => q1 (g1.1 q))]
        by_cases q2 : β p = 10
        · rw [if_pos (g2.2 q2), if_pos (Or.inr q2)]
        · rw [if_neg (fun q => q2 (g2.1 q)), if_neg (by omega)]
    have md : f_X10_goes_0 τ m (M + 1) Y = if β p = 32 ∨ β p = 10 then f_X10_goes_0 τ m M (sI Y m 7 (nI (p + 1))) else f_X10_goes_50 τ m Y := by
      rw [f_X10_goes_0]
      unfold f_X10_goes_37
      simp only [litM]
      rw [ldI_t m0, ldI_t m0, h6, h7', if_neg (by rw [n_le (by omega) (by omega)]; omega), ldI_t m0, h7', ba, Option.bind_some, ldI_t m0, h7', stI_t m0, nI_add, ldI_t m0, h7', ba, Option.bind_some]
      by_cases q1 : β p = 32
      · rw [if_pos (by rw [q1]), if_pos (Or.inl q1)]
      · rw [if_neg (nI_ne q1 (by omega) (by omega))]
        by_cases q2 : β p = 10
        · rw [if_pos (by rw [q2]), if_pos (Or.inr q2)]
        · rw [if_neg (nI_ne q2 (by omega) (by omega)), if_neg (by omega)]
    by_cases q : β p = 32 ∨ β p = 10
    · rw [if_pos q] at cl md
      obtain ⟨st, X1, Y1, i1, i2, i3, i4, i5, i6, i7, i8⟩ := ih (p + 1) N M (sI X tp 7 (nI (p + 1))) (sI Y m 7 (nI (p + 1))) (by omega) (by omega) (by omega) (hB.fr (sI_ne (by omega)) (sI_ne (by omega))) (by rw [sI_nk (by omega)]; exact h5) (by rw [sI_nk (by omega)]; exact h6) sI_eq sI_eq
      exact ⟨st, X1, Y1, by omega, i2, cl.trans i3, md.trans i4, (StF.fld (by omega)).trans i5, i6, (GoF.fld (by omega)).trans i7, i8⟩
    · rw [if_neg q] at cl md
      exact ⟨p, X, Y, Nat.le_refl _, by omega, cl, md, StF.refl, h7, GoF.refl, h7'⟩
