/-! ===== bits of a word ===== -/
def bI (b : Bool) : Int32 := if b then 1 else 0
def bt (w : Int32) (c : Nat) : Bool := w.toBitVec.getLsbD c
theorem bI_0 {b : Bool} : (bI b = 0) ↔ b = false := by cases b <;> decide
theorem bI_1 {b : Bool} : (bI b = 1) ↔ b = true := by cases b <;> decide
theorem nI_bv (n : Nat) : (nI n).toBitVec = BitVec.ofNat 32 n := rfl
theorem sh31 {c : Nat} (h : c < 32) : (nI c &&& 31) = nI c := by
  apply Int32.toBitVec_inj.mp
  rw [Int32.toBitVec_and, nI_bv, show (31 : Int32).toBitVec = BitVec.ofNat 32 31 from rfl]
  apply BitVec.eq_of_toNat_eq
  simp
  rw [show (31 : Nat) = 2 ^ 5 - 1 from rfl, Nat.and_two_pow_sub_one_eq_mod]
  omega
theorem smod32 {c : Nat} (h : c < 32) : (BitVec.ofNat 32 c).smod 32 = BitVec.ofNat 32 c := by
  revert c; decide
theorem bv_ext1 {x y : BitVec 32} (h : ∀ i, i < 32 → x.getLsbD i = y.getLsbD i) : x = y := BitVec.eq_of_getLsbD_eq (fun i hi => h i hi)
theorem one_get (i : Nat) : (1 : BitVec 32).getLsbD i = decide (i = 0) := by
  rw [show (1 : BitVec 32) = BitVec.ofNat 32 1 from rfl, BitVec.getLsbD_ofNat]
  by_cases h : i = 0
  · subst h; decide
  · have hb : Nat.testBit 1 i = false := by
      cases hb : Nat.testBit 1 i with
      | false => rfl
      | true => exact absurd (Nat.testBit_one_eq_true_iff_self_eq_zero.mp hb) h
    simp [h, hb]
theorem bt_def {w : Int32} {c : Nat} (h : c < 32) : ((w >>> (nI c &&& 31)) &&& 1) = bI (bt w c) := by
  rw [sh31 h]
  apply Int32.toBitVec_inj.mp
  rw [Int32.toBitVec_and, Int32.toBitVec_shiftRight, nI_bv, smod32 h]
  apply bv_ext1
  intro i hi
  rw [BitVec.getLsbD_and, show (1 : Int32).toBitVec = (1 : BitVec 32) from rfl, one_get]
  have h2 : (w.toBitVec.sshiftRight' (BitVec.ofNat 32 c)).getLsbD 0 = w.toBitVec.getLsbD c := by
    rw [BitVec.sshiftRight', BitVec.getLsbD_sshiftRight]
    have : (BitVec.ofNat 32 c).toNat = c := by simp; omega
    simp [this, h]
  by_cases h0 : i = 0
  · subst h0
    rw [h2]
    unfold bI bt
    cases w.toBitVec.getLsbD c <;> simp <;> decide
  · simp only [h0, decide_false, Bool.and_false]
    unfold bI
    cases bt w c
    · simp
    · simp only [if_true]
      rw [show (1 : Int32).toBitVec = (1 : BitVec 32) from rfl, one_get]; simp [h0]
theorem shl_get {c d : Nat} (h : c < 32) (hd : d < 32) : bt ((1 : Int32) <<< (nI c &&& 31)) d = decide (d = c) := by
  rw [sh31 h]
  unfold bt
  rw [Int32.toBitVec_shiftLeft, nI_bv, smod32 h, BitVec.shiftLeft_eq']
  have : (BitVec.ofNat 32 c).toNat = c := by simp; omega
  rw [this, BitVec.getLsbD_shiftLeft, show (1 : Int32).toBitVec = (1 : BitVec 32) from rfl, one_get]
  by_cases h1 : d = c
  · subst h1; simp [hd]
  · simp [h1, hd]; omega
theorem bt_hi {w : Int32} {d : Nat} (h : 32 ≤ d) : bt w d = false := by
  unfold bt; exact BitVec.getLsbD_of_ge _ _ h
theorem bt_set {w : Int32} {c d : Nat} (h : c < 32) : bt (w ||| ((1 : Int32) <<< (nI c &&& 31))) d = (bt w d || decide (d = c)) := by
  by_cases hd : d < 32
  · rw [← shl_get h hd]; unfold bt; rw [Int32.toBitVec_or, BitVec.getLsbD_or]
  · rw [bt_hi (by omega), bt_hi (by omega)]; simp; omega
theorem bt_clr {w : Int32} {c d : Nat} (h : c < 32) : bt (w &&& (((1 : Int32) <<< (nI c &&& 31)) ^^^ (-1))) d = (bt w d && decide (d ≠ c)) := by
  by_cases hd : d < 32
  · have := shl_get h hd
    unfold bt at this ⊢
    rw [Int32.toBitVec_and, BitVec.getLsbD_and, Int32.toBitVec_xor, BitVec.getLsbD_xor, this]
    have h1 : ((-1 : Int32).toBitVec).getLsbD d = true := (show ∀ d, d < 32 → ((-1 : Int32).toBitVec).getLsbD d = true by decide) d hd
    rw [h1]
    by_cases h2 : d = c <;> simp [h2]
  · rw [bt_hi (by omega), bt_hi (by omega)]; simp
theorem bt_zero {d : Nat} : bt 0 d = false := by
  unfold bt; simp
theorem bt_ext {w v : Int32} (h : ∀ d, d < 32 → bt w d = bt v d) : w = v := Int32.toBitVec_inj.mp (bv_ext1 h)
/-! ===== how many bits a word has ===== -/
def cnt : Nat → Int32 → Nat
  | 0, _ => 0
  | n + 1, w => cnt n w + (if bt w n then 1 else 0)
theorem cnt_le (n : Nat) (w : Int32) : cnt n w ≤ n := by
  induction n with
  | zero => exact Nat.le_refl _
  | succ n ih => unfold cnt; split <;> omega
theorem lit_nI (n : Nat) : (OfNat.ofNat n : Int32) = nI n := rfl
theorem bits_loop {w : Int32} : ∀ (n k : Nat), k ≤ 20 → 20 < n + k → f_X10_bits_4 w n (nI (cnt k w)) (nI k) = some (nI (cnt 20 w)) := by
  intro n
  induction n with
  | zero => intro k h1 h2; omega
  | succ n ih =>
    intro k h1 h2
    rw [f_X10_bits_4]
    by_cases hk : k = 20
    · subst hk; rw [if_pos (by decide)]
    · rw [if_neg (by rw [show (20 : Int32) = nI 20 from rfl]; exact nI_ge (by omega) (by decide)), bt_def (by omega), nI_1]
      have : nI (cnt k w) + bI (bt w k) = nI (cnt (k + 1) w) := by
        rw [cnt]
        unfold bI
        cases bt w k
        · simp
        · simp; rw [nI_1]
      rw [this]
      exact ih (k + 1) (by omega) (by omega)
theorem s_bits (w : Int32) : f_X10_bits w = some (nI (cnt 20 w)) := bits_loop FU 0 (by omega) (by decide)
theorem jushr_n {v k : Nat} (hv : v < 2 ^ 31) (hk : k < 32) : jushr (nI v) (nI k) = nI (v >>> k) := by
  unfold jushr
  apply Int32.toBitVec_inj.mp
  apply BitVec.eq_of_toNat_eq
  have e1 : ((nI v).toUInt32).toNat = v := by
    show (BitVec.ofNat 32 v).toNat = v
    simp; omega
  have e2 : ((nI k).toUInt32).toNat = k := by
    show (BitVec.ofNat 32 k).toNat = k
    simp; omega
  show ((nI v).toUInt32 >>> ((nI k).toUInt32 &&& Int32.toUInt32 31)).toNat = (BitVec.ofNat 32 (v >>> k)).toNat
  rw [UInt32.toNat_shiftRight, UInt32.toNat_and, e1, e2]
  have e3 : (Int32.toUInt32 31).toNat = 2 ^ 5 - 1 := rfl
  rw [e3, Nat.and_two_pow_sub_one_eq_mod, BitVec.toNat_ofNat, Nat.mod_eq_of_lt (show k < 2 ^ 5 by omega), Nat.mod_eq_of_lt (show k < 32 by omega), Nat.mod_eq_of_lt]
  rw [Nat.shiftRight_eq_div_pow]
  exact Nat.lt_of_le_of_lt (Nat.div_le_self _ _) (by omega)
theorem and_n {a b : Nat} : nI a &&& nI b = nI (a &&& b) := by
  apply Int32.toBitVec_inj.mp
  rw [Int32.toBitVec_and, nI_bv, nI_bv, nI_bv]
  exact BitVec.ofNat_and.symm
theorem sub_n {a b : Nat} (h : b ≤ a) : nI a - nI b = nI (a - b) := by
  have := nI_add (a - b) b
  rw [Nat.sub_add_cancel h] at this
  rw [← this]
  exact Int32.add_sub_cancel _ _
def pcN (v : Nat) : Nat :=
  let t1 := v - ((v >>> 1) &&& 1431655765)
  let t2 := (t1 &&& 858993459) + ((t1 >>> 2) &&& 858993459)
  let t3 := (t2 + (t2 >>> 4)) &&& 252645135
  let t4 := t3 + (t3 >>> 8)
  let t5 := t4 + (t4 >>> 16)
  t5 &&& 63
theorem land256 {x m y n : Nat} (hx : x < 256) (hm : m < 256) : (x + 256 * y) &&& (m + 256 * n) = (x &&& m) + 256 * (y &&& n) := by
  have hxm : x &&& m < 256 := Nat.and_lt_two_pow (n := 8) x hm
  apply Nat.eq_of_testBit_eq
  intro i
  rw [Nat.testBit_and, Nat.add_comm x, Nat.add_comm m, Nat.add_comm (x &&& m), show (256 : Nat) = 2 ^ 8 from rfl, Nat.testBit_two_pow_mul_add _ (by omega), Nat.testBit_two_pow_mul_add _ (by omega), Nat.testBit_two_pow_mul_add _ (by omega)]
  split <;> rw [Nat.testBit_and]

theorem pc1 : ∀ p, p < 128 → ∀ q, q < 2 → (p + 128 * q) &&& 85 = p &&& 85 := by decide +kernel
theorem pc2 : ∀ p, p < 64 → ∀ q, q < 4 → (p + 64 * q) &&& 51 = p &&& 51 := by decide +kernel
theorem pc3 : ∀ x, x < 256 → (x / 2) &&& 85 ≤ x := by decide +kernel
def s1 (x : Nat) : Nat := x - ((x / 2) &&& 85)
def s2 (x : Nat) : Nat := (s1 x &&& 51) + ((s1 x / 4) &&& 51)
def s3 (x : Nat) : Nat := (s2 x + s2 x / 16) &&& 15
theorem s1_lt : ∀ x, x < 256 → s1 x < 256 := by decide +kernel
theorem s2_lt : ∀ x, x < 256 → s2 x < 69 := by decide +kernel
theorem s3_le : ∀ x, x < 256 → s3 x ≤ 8 := by decide +kernel
theorem pc4 : ∀ x, x < 69 → ∀ q, q < 16 → (x + x / 16 + 16 * q) &&& 15 = (x + x / 16) &&& 15 := by decide +kernel
theorem s2_mod : ∀ x, x < 256 → s2 x % 16 ≤ 4 := by decide +kernel
theorem c_and1 : ∀ c, c < 16 → (c / 2) &&& 21845 = (c / 2) &&& 85 := by decide +kernel
theorem c_and2 : ∀ c, c < 16 → (s1 c) &&& 13107 = (s1 c) &&& 51 := by decide +kernel
theorem c_and3 : ∀ c, c < 16 → (s1 c / 4) &&& 13107 = (s1 c / 4) &&& 51 := by decide +kernel
theorem c_and4 : ∀ c, c < 16 → (s2 c + s2 c / 16) &&& 3855 = (s2 c + s2 c / 16) &&& 15 := by decide +kernel
theorem pc_split {a b c : Nat} (ha : a < 256) (hb : b < 256) (hc : c < 16) : pcN (a + 256 * (b + 256 * c)) = s3 a + s3 b + s3 c := by
  have hc2 : c < 256 := by omega
  have A1 := s1_lt a ha; have B1 := s1_lt b hb; have C1 := s1_lt c hc2
  have A2 := s2_lt a ha; have B2 := s2_lt b hb; have C2 := s2_lt c hc2
  have A3 := s3_le a ha; have B3 := s3_le b hb; have C3 := s3_le c hc2
  have B4 := s2_mod b hb; have C4 := s2_mod c hc2
  have t1 : (a + 256 * (b + 256 * c)) - (((a + 256 * (b + 256 * c)) >>> 1) &&& 1431655765) = s1 a + 256 * (s1 b + 256 * s1 c) := by
    have e : (a + 256 * (b + 256 * c)) >>> 1 = (a / 2 + 128 * (b % 2)) + 256 * ((b / 2 + 128 * (c % 2)) + 256 * (c / 2)) := by
      rw [Nat.shiftRight_eq_div_pow]; omega
    rw [e, show (1431655765 : Nat) = 85 + 256 * (85 + 256 * 21845) from rfl, land256 (by omega) (by omega), land256 (by omega) (by omega), pc1 _ (by omega) _ (by omega), pc1 _ (by omega) _ (by omega), c_and1 c hc]
    have h1 := pc3 a ha; have h2 := pc3 b hb; have h3 := pc3 c hc2
    unfold s1
    omega
  have t2 : ((s1 a + 256 * (s1 b + 256 * s1 c)) &&& 858993459) + (((s1 a + 256 * (s1 b + 256 * s1 c)) >>> 2) &&& 858993459) = s2 a + 256 * (s2 b + 256 * s2 c) := by
    have e : (s1 a + 256 * (s1 b + 256 * s1 c)) >>> 2 = (s1 a / 4 + 64 * (s1 b % 4)) + 256 * ((s1 b / 4 + 64 * (s1 c % 4)) + 256 * (s1 c / 4)) := by
      rw [Nat.shiftRight_eq_div_pow]; omega
    rw [e, show (858993459 : Nat) = 51 + 256 * (51 + 256 * 13107) from rfl, land256 (by omega) (by omega), land256 (by omega) (by omega), land256 (by omega) (by omega), land256 (by omega) (by omega), pc2 _ (by omega) _ (by omega), pc2 _ (by omega) _ (by omega), c_and2 c hc, c_and3 c hc]
    unfold s2
    omega
  have t3 : ((s2 a + 256 * (s2 b + 256 * s2 c)) + ((s2 a + 256 * (s2 b + 256 * s2 c)) >>> 4)) &&& 252645135 = s3 a + 256 * (s3 b + 256 * s3 c) := by
    have e : (s2 a + 256 * (s2 b + 256 * s2 c)) + ((s2 a + 256 * (s2 b + 256 * s2 c)) >>> 4) = (s2 a + s2 a / 16 + 16 * (s2 b % 16)) + 256 * ((s2 b + s2 b / 16 + 16 * (s2 c % 16)) + 256 * (s2 c + s2 c / 16)) := by
      rw [Nat.shiftRight_eq_div_pow]; omega
    rw [e, show (252645135 : Nat) = 15 + 256 * (15 + 256 * 3855) from rfl, land256 (by omega) (by omega), land256 (by omega) (by omega), pc4 _ A2 _ (by omega), pc4 _ B2 _ (by omega), c_and4 c hc]
    rfl
  unfold pcN
  dsimp only
  rw [t1, t2, t3]
  have t4 : (s3 a + 256 * (s3 b + 256 * s3 c)) >>> 8 = s3 b + 256 * s3 c := by
    rw [Nat.shiftRight_eq_div_pow]; omega
  rw [t4]
  have t5 : (s3 a + 256 * (s3 b + 256 * s3 c) + (s3 b + 256 * s3 c)) >>> 16 = s3 c := by
    rw [Nat.shiftRight_eq_div_pow]; omega
  rw [t5, show (63 : Nat) = 2 ^ 6 - 1 from rfl, Nat.and_two_pow_sub_one_eq_mod]
  omega
def cntN : Nat → Nat → Nat
  | 0, _ => 0
  | n + 1, v => v % 2 + cntN n (v / 2)
theorem s3_cnt : ∀ x, x < 256 → s3 x = cntN 8 x := by decide +kernel
theorem cntN_add (n m : Nat) : ∀ v, cntN (n + m) v = cntN n v + cntN m (v / 2 ^ n) := by
  induction n with
  | zero => intro v; simp [cntN]
  | succ n ih =>
    intro v
    rw [show n + 1 + m = (n + m) + 1 by omega, cntN, cntN, ih, Nat.div_div_eq_div_mul, Nat.pow_succ, Nat.mul_comm 2]
    omega
theorem cntN_mod (n : Nat) : ∀ v, cntN n v = cntN n (v % 2 ^ n) := by
  induction n with
  | zero => intro v; rfl
  | succ n ih =>
    intro v
    rw [cntN, cntN, ih (v / 2), ih (v % 2 ^ (n + 1) / 2)]
    have h1 : v % 2 ^ (n + 1) % 2 = v % 2 := by rw [Nat.pow_succ]; exact Nat.mod_mul_left_mod v (2 ^ n) 2
    have h2 : v % 2 ^ (n + 1) / 2 % 2 ^ n = v / 2 % 2 ^ n := by
      rw [Nat.pow_succ, Nat.mul_comm, Nat.mod_mul_right_div_self, Nat.mod_mod]
    rw [h1, h2]
theorem pc_cnt {v : Nat} (h : v < 2 ^ 20) : pcN v = cntN 20 v := by
  have e : v = v % 256 + 256 * (v / 256 % 256 + 256 * (v / 65536)) := by omega
  have h1 := pc_split (a := v % 256) (b := v / 256 % 256) (c := v / 65536) (by omega) (by omega) (by omega)
  rw [← e] at h1
  rw [h1, s3_cnt _ (by omega), s3_cnt _ (by omega), s3_cnt _ (by omega), show (20 : Nat) = 8 + (8 + 4) from rfl, cntN_add, cntN_add, cntN_mod 8 v, cntN_mod 8 (v / 2 ^ 8), Nat.div_div_eq_div_mul]
  have e4 : cntN 8 (v / 65536) = cntN 4 (v / 65536) := (show ∀ x, x < 16 → cntN 8 x = cntN 4 x by decide +kernel) _ (by omega)
  rw [e4]
  simp only [Nat.reducePow, Nat.reduceMul]
  omega
theorem bt_n {v : Nat} (hv : v < 2 ^ 31) (k : Nat) : bt (nI v) k = v.testBit k := by
  unfold bt
  rw [nI_bv, BitVec.getLsbD_ofNat]
  by_cases hk : k < 32
  · simp [hk]
  · simp [hk]
    rw [Nat.testBit_lt_two_pow]
    exact Nat.lt_of_lt_of_le hv (Nat.pow_le_pow_right (by omega) (by omega))
theorem cnt_n {v : Nat} (hv : v < 2 ^ 31) (n : Nat) : cnt n (nI v) = cntN n v := by
  induction n with
  | zero => rfl
  | succ n ih =>
    rw [cnt, ih, show cntN (n + 1) v = cntN n v + cntN 1 (v / 2 ^ n) from cntN_add n 1 v, bt_n hv, Nat.testBit_eq_decide_div_mod_eq]
    simp only [cntN]
    by_cases h : v / 2 ^ n % 2 = 1
    · simp [h]
    · simp [h]; omega
/-- a word that has no bit from n on -/
def low (n : Nat) (w : Int32) : Prop := ∀ d, n ≤ d → bt w d = false
theorem low_n {n : Nat} {w : Int32} (hn : n ≤ 31) (h : low n w) : ∃ v, v < 2 ^ n ∧ w = nI v := by
  refine ⟨w.toBitVec.toNat, ?_, ?_⟩
  · apply Nat.lt_pow_two_of_testBit
    intro i hi
    have := h i hi
    unfold bt at this
    exact this
  · apply Int32.toBitVec_inj.mp
    rw [nI_bv]
    apply BitVec.eq_of_toNat_eq
    rw [BitVec.toNat_ofNat, Nat.mod_eq_of_lt w.toBitVec.isLt]
theorem low_mono {n m : Nat} {w : Int32} (h : low n w) (hnm : n ≤ m) : low m w := fun d hd => h d (by omega)
theorem low_0 (n : Nat) : low n 0 := fun d _ => bt_zero
theorem low_set {n c : Nat} {w : Int32} (h : low n w) (hc : c < n) (hn : n ≤ 32) : low n (w ||| ((1 : Int32) <<< (nI c &&& 31))) := fun d hd => by
  rw [bt_set (by omega), h d hd]; simp; omega
theorem low_clr {n c : Nat} {w : Int32} (h : low n w) (hc : c < 32) : low n (w &&& (((1 : Int32) <<< (nI c &&& 31)) ^^^ (-1))) := fun d hd => by
  rw [bt_clr hc, h d hd]; rfl
theorem s_bitCount {w : Int32} (h : low 20 w) : f_J6_bitCount_0f7a4 w = nI (cnt 20 w) := by
  obtain ⟨v, hv, rfl⟩ := low_n (by omega) h
  rw [cnt_n (by omega), ← pc_cnt hv]
  have hs : ∀ a k : Nat, a >>> k ≤ a := fun a k => by rw [Nat.shiftRight_eq_div_pow]; exact Nat.div_le_self _ _
  have hl : ∀ a b : Nat, a &&& b ≤ a := fun a b => Nat.and_le_left
  have jN : ∀ (a k : Nat) (x : Int32), a < 2 ^ 31 → k < 32 → x = nI k → jushr (nI a) x = nI (a >>> k) := fun a k x h1 h2 h3 => by rw [h3]; exact jushr_n h1 h2
  have aN : ∀ (a b : Nat) (x : Int32), x = nI b → nI a &&& x = nI (a &&& b) := fun a b x h => by rw [h]; exact and_n
  have k1 : v >>> 1 &&& 1431655765 ≤ v := Nat.le_trans (hl _ _) (hs _ _)
  unfold f_J6_bitCount_0f7a4 pcN
  dsimp only
  rw [jN v 1 1 (by omega) (by omega) rfl, aN (v >>> 1) 1431655765 1431655765 rfl, sub_n k1]
  have l1 : v - (v >>> 1 &&& 1431655765) < 2 ^ 20 := by omega
  generalize v - (v >>> 1 &&& 1431655765) = t1 at l1 ⊢
  rw [jN t1 2 2 (by omega) (by omega) rfl, aN t1 858993459 858993459 rfl, aN (t1 >>> 2) 858993459 858993459 rfl, nI_add]
  have l2 : (t1 &&& 858993459) + (t1 >>> 2 &&& 858993459) < 2 ^ 21 := by
    have := hl t1 858993459
    have := hl (t1 >>> 2) 858993459
    have := hs t1 2
    omega
  generalize (t1 &&& 858993459) + (t1 >>> 2 &&& 858993459) = t2 at l2 ⊢
  rw [jN t2 4 4 (by omega) (by omega) rfl, nI_add, aN (t2 + t2 >>> 4) 252645135 252645135 rfl]
  have l3 : (t2 + t2 >>> 4) &&& 252645135 < 2 ^ 22 := by
    have := hl (t2 + t2 >>> 4) 252645135
    have := hs t2 4
    omega
  generalize (t2 + t2 >>> 4) &&& 252645135 = t3 at l3 ⊢
  rw [jN t3 8 8 (by omega) (by omega) rfl, nI_add]
  have l4 : t3 + t3 >>> 8 < 2 ^ 23 := by have := hs t3 8; omega
  generalize t3 + t3 >>> 8 = t4 at l4 ⊢
  rw [jN t4 16 16 (by omega) (by omega) rfl, nI_add, aN (t4 + t4 >>> 16) 63 63 rfl]
