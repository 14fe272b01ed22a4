/-! ===== loops ===== -/
theorem up_loop {α ρ : Type} (F : Nat → α → Nat → Option ρ) (N : Nat) (I : Nat → α → Prop) (step : ∀ n k s, k < N → I k s → ∃ s1, F (n + 1) s k = F n s1 (k + 1) ∧ I (k + 1) s1) : ∀ n k s, k ≤ N → I k s → N < n + k → ∃ n1 s1, F n s k = F (n1 + 1) s1 N ∧ I N s1 := by
  intro n
  induction n with
  | zero => intro k s h1 h2 h3; omega
  | succ n ih =>
    intro k s h1 h2 h3
    by_cases hk : k = N
    · subst hk; exact ⟨n, s, rfl, h2⟩
    · obtain ⟨s1, e1, i1⟩ := step n k s (by omega) h2
      obtain ⟨n2, s2, e2, i2⟩ := ih (k + 1) s1 (by omega) i1 (by omega)
      exact ⟨n2, s2, e1.trans e2, i2⟩
theorem up_loop2 {α β ρ ρ2 : Type} (F : Nat → α → Nat → Option ρ) (G : Nat → β → Nat → Option ρ2) (N : Nat) (I : Nat → α → β → Prop) (step : ∀ n m k s t, k < N → I k s t → ∃ s1 t1, F (n + 1) s k = F n s1 (k + 1) ∧ G (m + 1) t k = G m t1 (k + 1) ∧ I (k + 1) s1 t1) : ∀ n m k s t, k ≤ N → I k s t → N < n + k → N < m + k → ∃ n1 m1 s1 t1, F n s k = F (n1 + 1) s1 N ∧ G m t k = G (m1 + 1) t1 N ∧ I N s1 t1 := by
  intro n
  induction n with
  | zero => intro m k s t h1 h2 h3; omega
  | succ n ih =>
    intro m k s t h1 h2 h3 h4
    obtain ⟨m, rfl⟩ : ∃ m', m = m' + 1 := ⟨m - 1, by omega⟩
    by_cases hk : k = N
    · subst hk; exact ⟨n, m, s, t, rfl, rfl, h2⟩
    · obtain ⟨s1, t1, e1, e2, i1⟩ := step n m k s t (by omega) h2
      obtain ⟨n2, m2, s2, t2, e3, e4, i2⟩ := ih m (k + 1) s1 t1 (by omega) i1 (by omega) (by omega)
      exact ⟨n2, m2, s2, t2, e1.trans e3, e2.trans e4, i2⟩
def anyB (p : Nat → Bool) : Nat → Bool
  | 0 => false
  | n + 1 => anyB p n || p n
theorem anyB_t {p : Nat → Bool} {n k : Nat} (h : k < n) (hp : p k = true) : anyB p n = true := by
  induction n with
  | zero => omega
  | succ n ih =>
    rw [anyB]
    by_cases hk : k = n
    · subst hk; rw [hp, Bool.or_true]
    · rw [ih (by omega), Bool.true_or]
theorem anyB_ex {p : Nat → Bool} {n : Nat} (h : anyB p n = true) : ∃ k, k < n ∧ p k = true := by
  induction n with
  | zero => cases h
  | succ n ih =>
    rw [anyB, Bool.or_eq_true] at h
    rcases h with h | h
    · obtain ⟨k, h1, h2⟩ := ih h; exact ⟨k, by omega, h2⟩
    · exact ⟨n, by omega, h⟩
theorem anyB_f {p : Nat → Bool} {n : Nat} (h : ∀ k, k < n → p k = false) : anyB p n = false := by
  cases hb : anyB p n with
  | false => rfl
  | true => obtain ⟨k, h1, h2⟩ := anyB_ex hb; rw [h k h1] at h2; cases h2
theorem anyB_congr {p q : Nat → Bool} {n : Nat} (h : ∀ k, k < n → p k = q k) : anyB p n = anyB q n := by
  induction n with
  | zero => rfl
  | succ n ih => rw [anyB, anyB, ih (fun k hk => h k (by omega)), h n (by omega)]
theorem any_loop {F : Nat → Nat → Option Int32} {N : Nat} {p : Nat → Bool} {e : Bool} (step : ∀ n k, k < N → F (n + 1) k = if p k = true then some (nI 1) else F n (k + 1)) (stop : ∀ n, F (n + 1) N = some (bI e)) : ∀ n k, k ≤ N → N < n + k → anyB p k = false → F n k = some (bI (anyB p N || e)) := by
  intro n
  induction n with
  | zero => intro k h1 h2; omega
  | succ n ih =>
    intro k h1 h2 h3
    by_cases hk : k = N
    · subst hk; rw [stop, h3, Bool.false_or]
    · rw [step n k (by omega)]
      cases hp : p k with
      | false => rw [if_neg (by decide)]; exact ih (k + 1) (by omega) (by omega) (by rw [anyB, h3, hp]; rfl)
      | true => rw [if_pos rfl, anyB_t (by omega) hp]; rfl
def cntB (p : Nat → Bool) : Nat → Nat
  | 0 => 0
  | n + 1 => cntB p n + (if p n = true then 1 else 0)
theorem cntB_le (p : Nat → Bool) (n : Nat) : cntB p n ≤ n := by
  induction n with
  | zero => exact Nat.le_refl _
  | succ n ih => rw [cntB]; split <;> omega
theorem cntB_congr {p q : Nat → Bool} {n : Nat} (h : ∀ k, k < n → p k = q k) : cntB p n = cntB q n := by
  induction n with
  | zero => rfl
  | succ n ih => rw [cntB, cntB, ih (fun k hk => h k (by omega)), h n (by omega)]
theorem cntB_lt {p : Nat → Bool} {n k : Nat} (h : k < n) (hp : p k = false) : cntB p n < n := by
  induction n with
  | zero => omega
  | succ n ih =>
    rw [cntB]
    by_cases hk : k = n
    · subst hk; rw [hp]; have := cntB_le p k; simp; omega
    · have := ih (by omega); split <;> omega
theorem cntB_upd {p q : Nat → Bool} {n k : Nat} (hk : k < n) (h : ∀ i, i < n → i ≠ k → q i = p i) (h0 : p k = false) (h1 : q k = true) : cntB q n = cntB p n + 1 := by
  induction n with
  | zero => omega
  | succ n ih =>
    rw [cntB, cntB]
    by_cases e : k = n
    · subst e; rw [h0, h1, cntB_congr (fun i hi => h i (by omega) (by omega))]; simp
    · rw [ih (by omega) (fun i hi hne => h i (by omega) hne), h n (by omega) (by omega)]; omega
theorem cntB_cnt (n : Nat) (w : Int32) : cntB (fun d => bt w d) n = cnt n w := by
  induction n with
  | zero => rfl
  | succ n ih => rw [cntB, cnt, ih]
theorem FU_s (n : Nat) (h : n < 40000) : n < FU + 0 := h
/-! ===== whole arrays ===== -/
def wF (X : Mx) (a : Nat) (f : Nat → Int32) : Mx := (fun b j => if b = a then f j else X.1 b j, X.2)
theorem wF_1 {X : Mx} {a b j : Nat} {f : Nat → Int32} : (wF X a f).1 b j = if b = a then f j else X.1 b j := rfl
theorem wF_2 {X : Mx} {a : Nat} {f : Nat → Int32} : (wF X a f).2 = X.2 := rfl
theorem wF_at {X : Mx} {a j : Nat} {f : Nat → Int32} : (wF X a f).1 a j = f j := if_pos rfl
theorem wF_na {X : Mx} {a b j : Nat} {f : Nat → Int32} (h : b ≠ a) : (wF X a f).1 b j = X.1 b j := if_neg h
theorem wF_fn {X : Mx} {a b : Nat} {f : Nat → Int32} (h : b ≠ a) : (wF X a f).1 b = X.1 b := funext fun _ => if_neg h
theorem wF_af {X : Mx} {a : Nat} {f : Nat → Int32} : (wF X a f).1 a = f := funext fun _ => if_pos rfl
theorem sI_wF {X : Mx} {a k : Nat} {v : Int32} : sI X a k v = wF X a (fun j => if j = k then v else X.1 a j) := by
  unfold sI wF
  congr 1
  funext b j
  by_cases h : b = a
  · subst h; simp
  · simp [h]
theorem wF_wF {X : Mx} {a : Nat} {f g : Nat → Int32} : wF (wF X a f) a g = wF X a g := by
  unfold wF
  congr 1
  funext b j
  by_cases h : b = a <;> simp [h]
theorem wF_self {X : Mx} {a : Nat} : wF X a (X.1 a) = X := by
  unfold wF
  refine Prod.ext ?_ rfl
  funext b j
  by_cases h : b = a
  · subst h; simp
  · simp [h]
theorem cpX_wF {X : Mx} {src sp dst dp n : Nat} : cpX X src sp dst dp n = wF X dst (va_cpy (X.1 src) (X.1 dst) sp dp n) := rfl
theorem mx_ext {X Y : Mx} (h1 : ∀ b j, X.1 b j = Y.1 b j) (h2 : X.2 = Y.2) : X = Y := Prod.ext (funext fun b => funext fun j => h1 b j) h2
theorem s_fill {σ : Sh} {X : Mx} {a : Nat} {v : Int32} (h1 : shK σ a = 10) (h2 : shN σ a < 30000) : f_J7_fill_53178 σ X a v = some (wF X a (fun j => if j < shN σ a then v else X.1 a j)) := by
  unfold f_J7_fill_53178
  rw [lenA_t h1]
  obtain ⟨n, s, e, i⟩ := up_loop (fun n s k => f_J7_fill_53178_5 σ a v (nI (shN σ a)) n s (nI k)) (shN σ a) (fun k s => s = wF X a (fun j => if j < k then v else X.1 a j)) (by
    intro n k s hk hs
    refine ⟨sI s a k v, by
      show f_J7_fill_53178_5 σ a v (nI (shN σ a)) (n + 1) s (nI k) = _
      rw [f_J7_fill_53178_5]
      simp (disch := first | assumption | omega) only [litN, grd_t, grd_T, ldI_t, stI_t, ldA_t, stA_t, lenA_t, n_lt_t, n_lt_f, n_le_t, n_le_f, n_eq_t, n_eq_f, if_true, if_false, nI_add, nI_mul, bt_d, bI_z, bI_o, Option.bind_some], ?_⟩
    rw [hs, sI_wF, wF_wF]
    congr 1
    funext j
    rw [wF_at]
    by_cases e : j = k
    · subst e; simp
    · simp only [e, if_false]
      by_cases e2 : j < k
      · rw [if_pos e2, if_pos (by omega)]
      · rw [if_neg e2, if_neg (by omega)]) FU 0 X (by omega) (by simp [wF_self]) (by simp [FU]; omega)
  have e : f_J7_fill_53178_5 σ a v (nI (shN σ a)) FU X 0 = _ := e
  rw [e, i]
  show f_J7_fill_53178_5 σ a v (nI (shN σ a)) (n + 1) _ (nI (shN σ a)) = _
  rw [f_J7_fill_53178_5]
  simp (disch := first | assumption | omega) only [litN, grd_t, grd_T, ldI_t, stI_t, ldA_t, stA_t, lenA_t, n_lt_t, n_lt_f, n_le_t, n_le_f, n_eq_t, n_eq_f, if_true, if_false, nI_add, nI_mul, bt_d, bI_z, bI_o, Option.bind_some]
