/-! ===== plain rows about the functions f_: numbers and memory ===== -/
theorem litN (n : Nat) : (no_index (OfNat.ofNat n) : Int32) = nI (OfNat.ofNat n) := rfl
theorem nI_mul (a b : Nat) : nI a * nI b = nI (a * b) := by
  unfold nI; exact (Int32.ofNat_mul a b).symm
theorem grd_t {ρ : Type} {P : Prop} [Decidable P] {k : Option ρ} (h : P) : grd P k = k := if_pos h
theorem grd_T {ρ : Type} {k : Option ρ} : grd True k = k := if_pos trivial
theorem ldI_t {ρ : Type} {σ : Sh} {X : Mx} {ci a k : Nat} {cont : Int32 → Option ρ} (h : shK σ a = ci) : ldI σ X ci a k cont = cont (X.1 a k) := if_pos h
theorem ldJ_t {ρ : Type} {σ : Sh} {X : Mx} {ci a k : Nat} {cont : Int64 → Option ρ} (h : shK σ a = ci) : ldJ σ X ci a k cont = cont (X.2 a k) := if_pos h
theorem stI_t {ρ : Type} {σ : Sh} {X : Mx} {ci a k : Nat} {v : Int32} {cont : Mx → Option ρ} (h : shK σ a = ci) : stI σ X ci a k v cont = cont (sI X a k v) := if_pos h
theorem stJ_t {ρ : Type} {σ : Sh} {X : Mx} {ci a k : Nat} {v : Int64} {cont : Mx → Option ρ} (h : shK σ a = ci) : stJ σ X ci a k v cont = cont (sJ X a k v) := if_pos h
theorem ldA_t {ρ : Type} {σ : Sh} {X : Mx} {kd a i : Nat} {cont : Int32 → Option ρ} (h : shK σ a = kd) (hi : i < shN σ a) (hb : shN σ a < 2 ^ 31) : ldA σ X kd a (nI i) cont = cont (X.1 a i) := by
  unfold ldA; rw [if_pos ⟨h, nI_in hi hb⟩, nI_clamp (by omega)]
theorem stA_t {ρ : Type} {σ : Sh} {X : Mx} {kd a i : Nat} {v : Int32} {cont : Mx → Option ρ} (h : shK σ a = kd) (hi : i < shN σ a) (hb : shN σ a < 2 ^ 31) : stA σ X kd a (nI i) v cont = cont (sI X a i v) := by
  unfold stA; rw [if_pos ⟨h, nI_in hi hb⟩, nI_clamp (by omega)]
theorem lenA_t {ρ : Type} {σ : Sh} {kd a : Nat} {cont : Int32 → Option ρ} (h : shK σ a = kd) : lenA σ kd a cont = cont (nI (shN σ a)) := if_pos h
theorem cpA_t {ρ : Type} {σ : Sh} {X : Mx} {src dst sp dp n : Nat} {cont : Mx → Option ρ} (h1 : shK σ src = 10) (h2 : shK σ dst = 10) (h3 : sp + n ≤ shN σ src) (h4 : dp + n ≤ shN σ dst) (b1 : shN σ src < 2 ^ 31) (b2 : shN σ dst < 2 ^ 31) : cpA σ X src (nI sp) dst (nI dp) (nI n) cont = cont (cpX X src sp dst dp n) := by
  unfold cpA
  rw [nI_clamp (by omega), nI_clamp (by omega), nI_clamp (by omega), if_pos ⟨⟨h1, h2⟩, ⟨nI_pos (by omega), nI_pos (by omega), nI_pos (by omega)⟩, h3, h4⟩]
theorem sI_1 {X : Mx} {a k b j : Nat} {v : Int32} : (sI X a k v).1 b j = if b = a ∧ j = k then v else X.1 b j := rfl
theorem sI_2 {X : Mx} {a k : Nat} {v : Int32} : (sI X a k v).2 = X.2 := rfl
theorem sI_eq {X : Mx} {a k : Nat} {v : Int32} : (sI X a k v).1 a k = v := if_pos ⟨rfl, rfl⟩
theorem sI_na {X : Mx} {a k b j : Nat} {v : Int32} (h : b ≠ a) : (sI X a k v).1 b j = X.1 b j := if_neg (fun q => h q.1)
theorem sI_nk {X : Mx} {a k b j : Nat} {v : Int32} (h : j ≠ k) : (sI X a k v).1 b j = X.1 b j := if_neg (fun q => h q.2)
theorem i32_nat {x : Int32} {n : Nat} (h0 : ¬ x < nI 0) (h1 : ¬ nI n ≤ x) (hn : n < 2 ^ 31) : ∃ k, k < n ∧ x = nI k := by
  have a0 : (0 : Int) ≤ x.toInt := by
    have := Int32.le_iff_toInt_le.mp (Int32.not_lt.mp h0)
    rw [nI_toInt (by omega)] at this
    exact this
  have a1 : x.toInt < (n : Int) := by
    have h2 : x < nI n := Int32.not_le.mp h1
    have := Int32.lt_iff_toInt_lt.mp h2
    rw [nI_toInt hn] at this
    exact this
  refine ⟨x.toInt.toNat, by omega, ?_⟩
  apply Int32.toInt_inj.mp
  rw [nI_toInt (by omega)]
  omega
/-- x is one of 0 .. n-1, or not -/
theorem i32_cases (x : Int32) (n : Nat) (hn : n < 2 ^ 31) : (∃ k, k < n ∧ x = nI k) ∨ (x < nI 0) ∨ (¬ x < nI 0 ∧ nI n ≤ x) := by
  by_cases h0 : x < nI 0
  · exact Or.inr (Or.inl h0)
  · by_cases h1 : nI n ≤ x
    · exact Or.inr (Or.inr ⟨h0, h1⟩)
    · exact Or.inl (i32_nat h0 h1 hn)
theorem n_lt_t {a b : Nat} (h : a < b) (hb : b < 2 ^ 31) : (nI a < nI b) = True := eq_true (nI_lt h hb)
theorem n_lt_f {a b : Nat} (h : b ≤ a) (ha : a < 2 ^ 31) : (nI a < nI b) = False := eq_false (nI_nlt h ha)
theorem n_le_t {a b : Nat} (h : a ≤ b) (hb : b < 2 ^ 31) : (nI a ≤ nI b) = True := eq_true (nI_le h hb)
theorem n_le_f {a b : Nat} (h : b < a) (ha : a < 2 ^ 31) : (nI a ≤ nI b) = False := eq_false (nI_ge h ha)
theorem n_eq_t {a b : Nat} (h : a = b) : (nI a = nI b) = True := eq_true (by rw [h])
theorem n_eq_f {a b : Nat} (h : a ≠ b) (ha : a < 2 ^ 31) (hb : b < 2 ^ 31) : (nI a = nI b) = False := eq_false (fun q => h ((nI_eq ha hb).mp q))
theorem bt_d {w : Int32} {c : Nat} (h : c < 32) : ((w >>> (nI c &&& nI 31)) &&& nI 1) = bI (bt w c) := bt_def h
theorem bI_z {b : Bool} : (bI b = nI 0) = (b = false) := propext bI_0
theorem bI_o {b : Bool} : (bI b = nI 1) = (b = true) := propext bI_1
theorem n_lt {a b : Nat} (ha : a < 2 ^ 31) (hb : b < 2 ^ 31) : (nI a < nI b) = (a < b) := propext (nI_ltI ha hb)
theorem n_le {a b : Nat} (ha : a < 2 ^ 31) (hb : b < 2 ^ 31) : (nI a ≤ nI b) = (a ≤ b) := propext (nI_leI ha hb)
theorem n_eq {a b : Nat} (ha : a < 2 ^ 31) (hb : b < 2 ^ 31) : (nI a = nI b) = (a = b) := propext (nI_eq ha hb)
/-- a Table at a, its rows behind it -/
def tabOK (σ : Sh) (a : Nat) : Prop := shK σ a = 5 ∧ shR σ a 2 = some (a + 1) ∧ shR σ a 3 = some (a + 2) ∧ shR σ a 4 = some (a + 3) ∧ shK σ (a + 1) = 10 ∧ shN σ (a + 1) = 9 ∧ shK σ (a + 2) = 10 ∧ shN σ (a + 2) = 9 ∧ shK σ (a + 3) = 10 ∧ shN σ (a + 3) = 180
/-- bit x of a word of n bits, for any number x -/
def inB (n : Nat) (w x : Int32) : Bool := if x < nI 0 then false else if nI n ≤ x then false else bt w x.toNatClampNeg
theorem inB_n {n c : Nat} {w : Int32} (h : c < n) (hn : n < 32) : inB n w (nI c) = bt w c := by
  unfold inB
  rw [if_neg (by rw [n_lt] <;> omega), if_neg (by rw [n_le] <;> omega), nI_clamp (by omega)]
theorem bI_if (b : Bool) : (if bI b = nI 0 then some (nI 0) else some (nI 1)) = some (bI b) := by
  cases b <;> decide
theorem ifI {ρ : Type} {b : Bool} {x y : ρ} : (if bI b = nI 0 then x else y) = (if b = true then y else x) := by
  cases b <;> simp [bI, nI]
theorem bI_ite (b : Bool) : (if b = false then some (nI 0) else some (nI 1)) = some (bI b) := by
  cases b <;> rfl
theorem bI_itf (b : Bool) : (if b = true then some (nI 1) else some (nI 0)) = some (bI b) := by
  cases b <;> rfl
theorem inB_lo {n : Nat} {w x : Int32} (h : x < nI 0) : inB n w x = false := if_pos h
theorem inB_hi {n : Nat} {w x : Int32} (h0 : ¬ x < nI 0) (h : nI n ≤ x) : inB n w x = false := by
  unfold inB; rw [if_neg h0, if_pos h]
theorem bI_f : bI false = nI 0 := rfl
theorem bI_t : bI true = nI 1 := rfl
