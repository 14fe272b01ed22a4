/-! ===== methods that make objects, or write references ===== -/
abbrev Hr (ρ : Type) : Type := ρ × Sh × Mx × Nat × Nat
abbrev rmH (fr lo mc ms : Nat) : Room := { frames := fr, cells := mc, slots := ms, locals := lo }
def adc {ρ : Type} (i j : Nat) (o : Option (Hr ρ)) : Option (Hr ρ) := match o with
  | some q => some (q.1, q.2.1, q.2.2.1, q.2.2.2.1 + i, q.2.2.2.2 + j)
  | none => none
def shNew (σ : Sh) (z kd n : Nat) : Sh := (fun b j => if b = z then none else shR σ b j, fun b => if b = z then kd else shK σ b, fun b => if b = z then n else shN σ b, shL σ ++ [z])
def xNew (X : Mx) (z : Nat) : Mx := (fun b j => if b = z then 0 else X.1 b j, fun b j => if b = z then 0 else X.2 b j)
def sR (σ : Sh) (a k : Nat) (v : Option Nat) : Sh := (fun b j => if b = a ∧ j = k then v else shR σ b j, shK σ, shN σ, shL σ)
def nwO {ρ : Type} (σ : Sh) (X : Mx) (z ci : Nat) (cont : Sh → Mx → Option (Hr ρ)) : Option (Hr ρ) := adc 1 (fN ci) (cont (shNew σ z ci 0) (xNew X z))
def nwA {ρ : Type} (σ : Sh) (X : Mx) (z kd : Nat) (n : Int32) (cont : Sh → Mx → Option (Hr ρ)) : Option (Hr ρ) := if ¬ n < 0 ∧ n.toNatClampNeg ≤ 60000000 then adc 1 n.toNatClampNeg (cont (shNew σ z kd n.toNatClampNeg) (xNew X z)) else none
def stR {ρ : Type} (σ : Sh) (ci a k v : Nat) (cont : Sh → Option ρ) : Option ρ := if shK σ a = ci then cont (sR σ a k (some v)) else none
def ldQ {ρ : Type} (σ : Sh) (a : Nat) (i : Int32) (cont : Nat → Option ρ) (nul : Option ρ) : Option ρ := if shK σ a = 11 ∧ ¬ (i < 0 ∨ shN σ a ≤ i.toNatClampNeg) then (match shR σ a i.toNatClampNeg with | some b => cont b | none => nul) else none
def stQ {ρ : Type} (σ : Sh) (a : Nat) (i : Int32) (v : Nat) (cont : Sh → Option ρ) : Option ρ := if (shK σ a = 11 ∧ ¬ (i < 0 ∨ shN σ a ≤ i.toNatClampNeg)) ∧ shK σ v = 4 then cont (sR σ a i.toNatClampNeg (some v)) else none
def bndH {α ρ : Type} (o : Option (Hr α)) (k : α → Sh → Mx → Nat → Nat → Option (Hr ρ)) : Option (Hr ρ) := match o with
  | some q => adc q.2.2.2.1 q.2.2.2.2 (k q.1 q.2.1 q.2.2.1 q.2.2.2.1 q.2.2.2.2)
  | none => none
theorem adc_inv {ρ : Type} {i j : Nat} {o : Option (Hr ρ)} {v : ρ} {σ : Sh} {X : Mx} {cu du : Nat} (h : adc i j o = some (v, σ, X, cu, du)) : ∃ c' d', o = some (v, σ, X, c', d') ∧ cu = c' + i ∧ du = d' + j := by
  cases o with
  | none => cases h
  | some q =>
    obtain ⟨a, b, c, d, e⟩ := q
    simp only [adc, Option.some.injEq, Prod.mk.injEq] at h
    obtain ⟨rfl, rfl, rfl, rfl, rfl⟩ := h
    exact ⟨d, e, rfl, rfl, rfl⟩
theorem bndH_inv {α ρ : Type} {o : Option (Hr α)} {k : α → Sh → Mx → Nat → Nat → Option (Hr ρ)} {v : ρ} {σ : Sh} {X : Mx} {cu du : Nat} (h : bndH o k = some (v, σ, X, cu, du)) : ∃ w σ1 X1 c1 d1 c' d', o = some (w, σ1, X1, c1, d1) ∧ k w σ1 X1 c1 d1 = some (v, σ, X, c', d') ∧ cu = c' + c1 ∧ du = d' + d1 := by
  cases o with
  | none => cases h
  | some q =>
    obtain ⟨a, b, c, d, e⟩ := q
    obtain ⟨c', d', h1, h2, h3⟩ := adc_inv h
    exact ⟨a, b, c, d, e, c', d', rfl, h1, h2, h3⟩
def RpH (g : Gp) (σ : Sh) (X : Mx) (z : Nat) (U : State) : Prop := Rp g σ X U ∧ U.heap.size = z
def HvI (g : Gp) (l : Launch) (y : MethodName) (cy : ByteArray) (nL : Nat) (rt : Option FieldType) (fr lo : Nat) (av : List Value) (σ : Sh) (X : Mx) (z : Nat) (r : Hr Int32) : Prop :=
  Met l y (Cond.code y cy nL rt :: TB) (rmH fr lo r.2.2.2.1 r.2.2.2.2) (va_Pc av (RpH g σ X z)) (va_Qi (fun v u => v = r.1 ∧ u = (r.2.1, r.2.2.1)) (fun u t => RpH g u.1 u.2 (z + r.2.2.2.1) t) (gA g)) r.2.2.2.1 r.2.2.2.2 (gA g)
def HvV (g : Gp) (l : Launch) (y : MethodName) (cy : ByteArray) (nL : Nat) (rt : Option FieldType) (fr lo : Nat) (av : List Value) (σ : Sh) (X : Mx) (z : Nat) (r : Hr Unit) : Prop :=
  Met l y (Cond.code y cy nL rt :: TB) (rmH fr lo r.2.2.2.1 r.2.2.2.2) (va_Pc av (RpH g σ X z)) (va_Qv (fun u => u = (r.2.1, r.2.2.1)) (fun u t => RpH g u.1 u.2 (z + r.2.2.2.1) t) (gA g)) r.2.2.2.1 r.2.2.2.2 (gA g)
def HvR (g : Gp) (l : Launch) (y : MethodName) (cy : ByteArray) (nL : Nat) (rt : Option FieldType) (fr lo : Nat) (av : List Value) (σ : Sh) (X : Mx) (z : Nat) (r : Hr Nat) : Prop :=
  Met l y (Cond.code y cy nL rt :: TB) (rmH fr lo r.2.2.2.1 r.2.2.2.2) (va_Pc av (RpH g σ X z)) (va_Qr (fun u => u = (r.2.1, r.2.2.1)) (fun u a t => a = r.1 ∧ RpH g u.1 u.2 (z + r.2.2.2.1) t) (gA g)) r.2.2.2.1 r.2.2.2.2 (gA g)
abbrev QHI (g : Gp) (below : List Frame) (args : Array Value) (s : State) (mc ms zf : Nat) (v0 : Int32) (σ0 : Sh) (X0 : Mx) : State → Prop := MQ below (va_Qi (fun v u => v = v0 ∧ u = (σ0, X0)) (fun u t => RpH g u.1 u.2 zf t) (gA g)) args s mc ms (gA g)
abbrev QHV (g : Gp) (below : List Frame) (args : Array Value) (s : State) (mc ms zf : Nat) (_ : Unit) (σ0 : Sh) (X0 : Mx) : State → Prop := MQ below (va_Qv (fun u => u = (σ0, X0)) (fun u t => RpH g u.1 u.2 zf t) (gA g)) args s mc ms (gA g)
abbrev QHR (g : Gp) (below : List Frame) (args : Array Value) (s : State) (mc ms zf : Nat) (v0 : Nat) (σ0 : Sh) (X0 : Mx) : State → Prop := MQ below (va_Qr (fun u => u = (σ0, X0)) (fun u a t => a = v0 ∧ RpH g u.1 u.2 zf t) (gA g)) args s mc ms (gA g)
theorem rph_blind {av : List Value} {g : Gp} {σ : Sh} {X : Mx} {z : Nat} : FrameBlind (va_Pc av (RpH g σ X z)) := fun a U gf mk q => ⟨q.1, (rp_blind (av := av) a U gf mk ⟨q.1, q.2.1⟩).2, q.2.2⟩
theorem cE_new {g : Gp} {σ : Sh} {X : Mx} {z kd n : Nat} {e : va_E} (he : e = cE g (shNew σ z kd n) (xNew X z) z) : ∀ b, va_up (cE g σ X) z e b = cE g (shNew σ z kd n) (xNew X z) b := by
  intro b
  unfold va_up
  by_cases hb : b = z
  · subst hb; rw [if_pos rfl, he]
  · rw [if_neg hb]
    have h1 : shK (shNew σ z kd n) b = shK σ b := by simp [shK, shNew, hb]
    have h2 : shN (shNew σ z kd n) b = shN σ b := by simp [shN, shNew, hb]
    have h3 : shR (shNew σ z kd n) b = shR σ b := by funext j; simp [shR, shNew, hb]
    have h4 : (xNew X z).1 b = X.1 b := by funext j; simp [xNew, hb]
    have h5 : (xNew X z).2 b = X.2 b := by funext j; simp [xNew, hb]
    unfold cE flds
    rw [h1, h2, h3, h4, h5]
theorem ShOK_new {σ : Sh} {z kd n : Nat} (h : ShOK σ) : ShOK (shNew σ z kd n) := by
  intro a ha
  show a ∈ shL σ ++ [z]
  by_cases hb : a = z
  · subst hb; simp
  · exact List.mem_append_left _ (h a (by simpa [shK, shNew, hb] using ha))
theorem pool_new {g : Gp} {σ : Sh} {X : Mx} {z kd n : Nat} {e : va_E} (hz : z ∉ shL σ) (he : e = cE g (shNew σ z kd n) (xNew X z) z) : pool g σ X ++ [(z, e)] = pool g (shNew σ z kd n) (xNew X z) := by
  unfold pool
  rw [va_pl_push hz]
  exact va_pl_congr (cE_new he)
theorem pool_lt {g : Gp} {σ : Sh} {X : Mx} {H : Heap} (h : va_P g.1 vwCl (pool g σ X) H) {a : Nat} (ha : a ∈ shL σ) : a < H.size := by
  obtain ⟨k, hk⟩ := va_pl_get (X := []) (f := cE g σ X) ha
  exact (h k _ hk).lt
theorem cE_sR_ne {g : Gp} {σ : Sh} {X : Mx} {a k b : Nat} {v : Option Nat} (hb : b ≠ a) : cE g (sR σ a k v) X b = cE g σ X b := by
  have h3 : shR (sR σ a k v) b = shR σ b := by funext j; simp [shR, sR, hb]
  unfold cE flds
  rw [h3]
  rfl
theorem pool_setR {g : Gp} {σ : Sh} {X : Mx} {a k j : Nat} {v : Option Nat} {e : va_E} {A : Nat → Prop} (hD : va_D A (pool g σ X)) (hS : ShOK σ) (h : shK σ a < 13) (hk : (pool g σ X)[k]? = some (a, cE g σ X a)) (he : e = cE g (sR σ a j v) X a) : (pool g σ X).set k (a, e) = pool g (sR σ a j v) X := by
  have h1 := va_pl_set (X := []) (e := e) hD (hS a h) hk
  rw [List.nil_append, List.nil_append] at h1
  unfold pool
  rw [h1]
  refine va_pl_congr (fun b => ?_)
  unfold va_up
  by_cases hb : b = a
  · subst hb; rw [if_pos rfl, he]
  · rw [if_neg hb, cE_sR_ne hb]
theorem oi_inst : Cond.instanceMethod Lib.objectInit ∈ TB := tb (by decide +kernel) (by decide +kernel)
theorem oi_code : Cond.code Lib.objectInit ⟨#[0xb1]⟩ 1 none ∈ TB := tb (by decide +kernel) (by decide +kernel)
section HEAVY
variable {p : Program} {l : Launch} {e : Env} {R : Room} {s : State} {m : MethodId} {args : Array Value} {below : List Frame} {meth : Method} {c : Code} {H : Heap} {locs : List Loc} {cells slots : Nat} {Q : State → Prop}
variable {g : Gp} {own : String} {cc : ByteArray} {nL : Nat} {rt : Option FieldType} {σ : Sh} {X : Mx} {pc z : Nat} {ls : Array Slot} {rest st0 As : List Value} {ρ : Type} {v0 : ρ} {σ0 : Sh} {X0 : Mx} {cu du : Nat}
variable {y : MethodName} {cy : ByteArray} {nLy fr lo idx n b ci : Nat} {rty : Option FieldType} {q : vw_C}
/-- the heap's size is known where cells are counted exactly -/
theorem wsz {g0 : JFrame} (hz : z ≤ H.size) (hc : s.heap.size + cells = z) (k : H.size = z → W p l e R s m args below meth c H locs cells slots Q g0) : W p l e R s m args below meth c H locs cells slots Q g0 := by
  intro T hT X
  have h1 : T.heap.size ≤ s.heap.size + cells := X.same.2.2.1
  exact k (by rw [hT] at h1; omega) T hT X
def nOK (own : String) (idx ci : Nat) : Prop := ∃ (q : vw_C) (ty0 : Nat → FieldType), vwCl[ci]? = some q ∧ q.2.2 = fN ci ∧ (∀ w ∈ u_ws q.1 q.2.1 q.2.2, w ∈ TB) ∧ (∀ k, k < q.2.2 → parseFieldDescriptor (q.2.1 k).2.2.1 = some (ty0 k)) ∧ (∀ k, k < q.2.2 → defaultValue (ty0 k) = fval (fT ci k) 0 none 0) ∧ Cond.classLink own idx q.1 ∈ TB ∧ Cond.instantiable q.1 q.2.2 ∈ TB ∧ Cond.initialized q.1 ∈ TB
theorem r_new (C : Cx g own cc nL rt p s m args meth c) (hW : Wd g σ X s H locs) (hz : z ≤ H.size) (hc : s.heap.size + cells = z) (hm : cells + cu = R.cells ∧ slots + du = R.slots) {cont : Sh → Mx → Option (Hr ρ)} (h : nwO σ X z ci cont = some (v0, σ0, X0, cu, du)) (h9 : ci < 9) (hn : nOK own idx ci) (hdg : decode cc pc = .ok (.new idx, 3))
    (kk : ∀ σ1 X1 H1 cells slots cu du, cont σ1 X1 = some (v0, σ0, X0, cu, du) → Wd g σ1 X1 s H1 locs → z + 1 ≤ H1.size → s.heap.size + cells = z + 1 → (cells + cu = R.cells ∧ slots + du = R.slots) → W p l e R s m args below meth c H1 locs cells slots Q (F0 m (pc + 3) ls (.ref z :: rest))) : W p l e R s m args below meth c H locs cells slots Q (F0 m pc ls rest) := by
  obtain ⟨c', d', hh, rfl, rfl⟩ := adc_inv h
  obtain ⟨⟨hx, hb, hml, hown, hts⟩, hKK, hg, -, -⟩ := C
  refine wsz hz hc (fun hzz => ?_)
  obtain ⟨hP, hD, hS, hO⟩ := hW
  obtain ⟨⟨C, T, N⟩, ty0, h1, h2, h3, h4, h5, h6, h7, h8⟩ := hn
  have hN : N = fN ci := h2
  have hKn := hKK.1 ci _ h1
  refine W.newcK hx hb hown (hts _ h6) (hts _ h7) (hts _ h8) rfl hdg (by omega) (by show slots + N ≤ _; omega) hKn.2.1 hzz fun H1 kC hkC e1 z1 o1 => ?_
  have hk : ∀ (k : Nat) (x : Nat × va_E), (pool g σ X)[k]? = some x → H1[x.1]? = H[x.1]? := fun k x hx => o1 x.1 (by rw [← hzz]; exact (hP k x hx).lt)
  have hnz : z ∉ shL σ := fun hm => by have := pool_lt hP hm; omega
  have hKz : shK (shNew σ z ci 0) z = ci := by simp [shK, shNew]
  have heq := pool_new (g := g) (X := X) (kd := ci) (n := 0) (e := .inr (ci, flds (shNew σ z ci 0) (xNew X z) z)) hnz (by rw [cE_obj hKz h9])
  have hP2 : va_P g.1 vwCl (pool g σ X ++ [(z, .inr (ci, flds (shNew σ z ci 0) (xNew X z) z))]) H1 := (hP.kept hk).app (fun k x hx => by
    have hz0 : k < 1 := (List.getElem?_eq_some_iff.mp hx).1
    rw [show k = 0 by omega] at hx
    cases hx
    refine ⟨_, h1, (u_born ty0 hts h3 hKn hkC e1 h4).to (fun j hj => ?_)⟩
    rw [h5 j hj]
    have hj' : j < fN (shK (shNew σ z ci 0) z) := by rw [hKz, ← hN]; exact hj
    unfold vp_V
    rw [List.getD_eq_getElem?_getD, flds_get hj', hKz]
    simp [shR, shNew, xNew])
  have hD2 := hD.push (e := .inr (ci, flds (shNew σ z ci 0) (xNew X z) z)) hP hzz.symm (show gA g z by rw [← hzz]; exact Nat.le_trans hg hS.1)
  rw [heq] at hP2 hD2
  have hW1 : Wd g (shNew σ z ci 0) (xNew X z) s H1 locs := ⟨hP2, hD2, ⟨Nat.le_trans hS.1 (by omega), fun x h1 h2 => (o1 x (by have := Nat.lt_of_lt_of_le h1 hS.1; omega)).trans (hS.2.1 x h1 h2), hS.2.2⟩, ShOK_new hO⟩
  exact kk _ _ _ _ _ _ _ hh hW1 (by omega) (by omega) ⟨by omega, by show slots + N + _ = _; omega⟩
theorem r_newaI (C : Cx g own cc nL rt p s m args meth c) (hW : Wd g σ X s H locs) (hz : z ≤ H.size) (hc : s.heap.size + cells = z) (hm : cells + cu = R.cells ∧ slots + du = R.slots) {k : Int32} {cont : Sh → Mx → Option (Hr ρ)} (h : nwA σ X z 10 k cont = some (v0, σ0, X0, cu, du)) (ha : Cond.arrayClass .int ∈ TB) (hdg : decode cc pc = .ok (.newarray .int, 2))
    (kk : ∀ σ1 X1 H1 cells slots cu du, cont σ1 X1 = some (v0, σ0, X0, cu, du) → Wd g σ1 X1 s H1 locs → z + 1 ≤ H1.size → s.heap.size + cells = z + 1 → (cells + cu = R.cells ∧ slots + du = R.slots) → W p l e R s m args below meth c H1 locs cells slots Q (F0 m (pc + 2) ls (.ref z :: rest))) : W p l e R s m args below meth c H locs cells slots Q (F0 m pc ls (.int k :: rest)) := by
  obtain ⟨⟨hk0, hk1⟩, h⟩ := if_inv h
  obtain ⟨c', d', hh, rfl, rfl⟩ := adc_inv h
  obtain ⟨⟨hx, hb, hml, hown, hts⟩, hKK, hg, -, -⟩ := C
  refine wsz hz hc (fun hzz => ?_)
  obtain ⟨hP, hD, hS, hO⟩ := hW
  refine va_newaK hx hb (atype := .int) (hts _ ha) rfl hdg rfl hk0 rfl (by show k.toNatClampNeg * 4 ≤ _; omega) (by omega) (by omega) hzz fun H1 cA e1 z1 o1 hAr hNm => ?_
  have hcA : cA = g.2.1.2.1 := Option.some.inj (hNm.symm.trans ((hKK.2 1 (g.2.1.2.1, .int) rfl).2))
  subst hcA
  have hk : ∀ (k : Nat) (x : Nat × va_E), (pool g σ X)[k]? = some x → H1[x.1]? = H[x.1]? := fun k x hx => o1 x.1 (by rw [← hzz]; exact (hP k x hx).lt)
  have hnz : z ∉ shL σ := fun hm => by have := pool_lt hP hm; omega
  have hKz : shK (shNew σ z 10 k.toNatClampNeg) z = 10 := by simp [shK, shNew]
  have hNz : shN (shNew σ z 10 k.toNatClampNeg) z = k.toNatClampNeg := by simp [shN, shNew]
  have hXz : (xNew X z).1 z = fun _ => 0 := by funext j; simp [xNew]
  have heq := pool_new (g := g) (X := X) (kd := 10) (n := k.toNatClampNeg) (e := .inl (g.2.1.2.1, k.toNatClampNeg, .inl (fun _ => 0))) hnz (by rw [cE_i hKz, hNz, hXz])
  have hP2 : va_P g.1 vwCl (pool g σ X ++ [(z, .inl (g.2.1.2.1, k.toNatClampNeg, .inl (fun _ => 0)))]) H1 := (hP.kept hk).app (fun j x hx => by
    have hz0 : j < 1 := (List.getElem?_eq_some_iff.mp hx).1
    rw [show j = 0 by omega] at hx
    cases hx
    exact e1)
  have hD2 := hD.push (e := .inl (g.2.1.2.1, k.toNatClampNeg, .inl (fun _ => 0))) hP hzz.symm (show gA g z by rw [← hzz]; exact Nat.le_trans hg hS.1)
  rw [heq] at hP2 hD2
  have hW1 : Wd g (shNew σ z 10 k.toNatClampNeg) (xNew X z) s H1 locs := ⟨hP2, hD2, ⟨Nat.le_trans hS.1 (by omega), fun x h1 h2 => (o1 x (by have := Nat.lt_of_lt_of_le h1 hS.1; omega)).trans (hS.2.1 x h1 h2), hS.2.2⟩, ShOK_new hO⟩
  exact kk _ _ _ _ _ _ _ hh hW1 (by omega) (by omega) ⟨by omega, by omega⟩
theorem r_newaB (C : Cx g own cc nL rt p s m args meth c) (hW : Wd g σ X s H locs) (hz : z ≤ H.size) (hc : s.heap.size + cells = z) (hm : cells + cu = R.cells ∧ slots + du = R.slots) {k : Int32} {cont : Sh → Mx → Option (Hr ρ)} (h : nwA σ X z 9 k cont = some (v0, σ0, X0, cu, du)) (ha : Cond.arrayClass .byte ∈ TB) (hdg : decode cc pc = .ok (.newarray .byte, 2))
    (kk : ∀ σ1 X1 H1 cells slots cu du, cont σ1 X1 = some (v0, σ0, X0, cu, du) → Wd g σ1 X1 s H1 locs → z + 1 ≤ H1.size → s.heap.size + cells = z + 1 → (cells + cu = R.cells ∧ slots + du = R.slots) → W p l e R s m args below meth c H1 locs cells slots Q (F0 m (pc + 2) ls (.ref z :: rest))) : W p l e R s m args below meth c H locs cells slots Q (F0 m pc ls (.int k :: rest)) := by
  obtain ⟨⟨hk0, hk1⟩, h⟩ := if_inv h
  obtain ⟨c', d', hh, rfl, rfl⟩ := adc_inv h
  obtain ⟨⟨hx, hb, hml, hown, hts⟩, hKK, hg, -, -⟩ := C
  refine wsz hz hc (fun hzz => ?_)
  obtain ⟨hP, hD, hS, hO⟩ := hW
  refine va_newaK hx hb (atype := .byte) (hts _ ha) rfl hdg rfl hk0 rfl (by show k.toNatClampNeg * 1 ≤ _; omega) (by omega) (by omega) hzz fun H1 cA e1 z1 o1 hAr hNm => ?_
  have hcA : cA = g.2.1.1 := Option.some.inj (hNm.symm.trans ((hKK.2 0 (g.2.1.1, .byte) rfl).2))
  subst hcA
  have hk : ∀ (k : Nat) (x : Nat × va_E), (pool g σ X)[k]? = some x → H1[x.1]? = H[x.1]? := fun k x hx => o1 x.1 (by rw [← hzz]; exact (hP k x hx).lt)
  have hnz : z ∉ shL σ := fun hm => by have := pool_lt hP hm; omega
  have hKz : shK (shNew σ z 9 k.toNatClampNeg) z = 9 := by simp [shK, shNew]
  have hNz : shN (shNew σ z 9 k.toNatClampNeg) z = k.toNatClampNeg := by simp [shN, shNew]
  have hXz : (xNew X z).1 z = fun _ => 0 := by funext j; simp [xNew]
  have heq := pool_new (g := g) (X := X) (kd := 9) (n := k.toNatClampNeg) (e := .inl (g.2.1.1, k.toNatClampNeg, .inl (fun _ => 0))) hnz (by rw [cE_b hKz, hNz, hXz])
  have hP2 : va_P g.1 vwCl (pool g σ X ++ [(z, .inl (g.2.1.1, k.toNatClampNeg, .inl (fun _ => 0)))]) H1 := (hP.kept hk).app (fun j x hx => by
    have hz0 : j < 1 := (List.getElem?_eq_some_iff.mp hx).1
    rw [show j = 0 by omega] at hx
    cases hx
    exact e1)
  have hD2 := hD.push (e := .inl (g.2.1.1, k.toNatClampNeg, .inl (fun _ => 0))) hP hzz.symm (show gA g z by rw [← hzz]; exact Nat.le_trans hg hS.1)
  rw [heq] at hP2 hD2
  have hW1 : Wd g (shNew σ z 9 k.toNatClampNeg) (xNew X z) s H1 locs := ⟨hP2, hD2, ⟨Nat.le_trans hS.1 (by omega), fun x h1 h2 => (o1 x (by have := Nat.lt_of_lt_of_le h1 hS.1; omega)).trans (hS.2.1 x h1 h2), hS.2.2⟩, ShOK_new hO⟩
  exact kk _ _ _ _ _ _ _ hh hW1 (by omega) (by omega) ⟨by omega, by omega⟩
theorem r_newaL (C : Cx g own cc nL rt p s m args meth c) (hW : Wd g σ X s H locs) (hz : z ≤ H.size) (hc : s.heap.size + cells = z) (hm : cells + cu = R.cells ∧ slots + du = R.slots) {k : Int32} {cont : Sh → Mx → Option (Hr ρ)} (h : nwA σ X z 12 k cont = some (v0, σ0, X0, cu, du)) (ha : Cond.arrayClass .long ∈ TB) (hdg : decode cc pc = .ok (.newarray .long, 2))
    (kk : ∀ σ1 X1 H1 cells slots cu du, cont σ1 X1 = some (v0, σ0, X0, cu, du) → Wd g σ1 X1 s H1 locs → z + 1 ≤ H1.size → s.heap.size + cells = z + 1 → (cells + cu = R.cells ∧ slots + du = R.slots) → W p l e R s m args below meth c H1 locs cells slots Q (F0 m (pc + 2) ls (.ref z :: rest))) : W p l e R s m args below meth c H locs cells slots Q (F0 m pc ls (.int k :: rest)) := by
  obtain ⟨⟨hk0, hk1⟩, h⟩ := if_inv h
  obtain ⟨c', d', hh, rfl, rfl⟩ := adc_inv h
  obtain ⟨⟨hx, hb, hml, hown, hts⟩, hKK, hg, -, -⟩ := C
  refine wsz hz hc (fun hzz => ?_)
  obtain ⟨hP, hD, hS, hO⟩ := hW
  refine va_newaK hx hb (atype := .long) (hts _ ha) rfl hdg rfl hk0 rfl (by show k.toNatClampNeg * 8 ≤ _; omega) (by omega) (by omega) hzz fun H1 cA e1 z1 o1 hAr hNm => ?_
  have hcA : cA = g.2.1.2.2.2 := Option.some.inj (hNm.symm.trans ((hKK.2 3 (g.2.1.2.2.2, .long) rfl).2))
  subst hcA
  have hk : ∀ (k : Nat) (x : Nat × va_E), (pool g σ X)[k]? = some x → H1[x.1]? = H[x.1]? := fun k x hx => o1 x.1 (by rw [← hzz]; exact (hP k x hx).lt)
  have hnz : z ∉ shL σ := fun hm => by have := pool_lt hP hm; omega
  have hKz : shK (shNew σ z 12 k.toNatClampNeg) z = 12 := by simp [shK, shNew]
  have hNz : shN (shNew σ z 12 k.toNatClampNeg) z = k.toNatClampNeg := by simp [shN, shNew]
  have hXz : (xNew X z).2 z = fun _ => 0 := by funext j; simp [xNew]
  have heq := pool_new (g := g) (X := X) (kd := 12) (n := k.toNatClampNeg) (e := .inl (g.2.1.2.2.2, k.toNatClampNeg, .inr (.inl (fun _ => 0)))) hnz (by rw [cE_l hKz, hNz, hXz])
  have hP2 : va_P g.1 vwCl (pool g σ X ++ [(z, .inl (g.2.1.2.2.2, k.toNatClampNeg, .inr (.inl (fun _ => 0))))]) H1 := (hP.kept hk).app (fun j x hx => by
    have hz0 : j < 1 := (List.getElem?_eq_some_iff.mp hx).1
    rw [show j = 0 by omega] at hx
    cases hx
    exact e1)
  have hD2 := hD.push (e := .inl (g.2.1.2.2.2, k.toNatClampNeg, .inr (.inl (fun _ => 0)))) hP hzz.symm (show gA g z by rw [← hzz]; exact Nat.le_trans hg hS.1)
  rw [heq] at hP2 hD2
  have hW1 : Wd g (shNew σ z 12 k.toNatClampNeg) (xNew X z) s H1 locs := ⟨hP2, hD2, ⟨Nat.le_trans hS.1 (by omega), fun x h1 h2 => (o1 x (by have := Nat.lt_of_lt_of_le h1 hS.1; omega)).trans (hS.2.1 x h1 h2), hS.2.2⟩, ShOK_new hO⟩
  exact kk _ _ _ _ _ _ _ hh hW1 (by omega) (by omega) ⟨by omega, by omega⟩
theorem r_newq (C : Cx g own cc nL rt p s m args meth c) (hW : Wd g σ X s H locs) (hz : z ≤ H.size) (hc : s.heap.size + cells = z) (hm : cells + cu = R.cells ∧ slots + du = R.slots) {k : Int32} {cont : Sh → Mx → Option (Hr ρ)} (h : nwA σ X z 11 k cont = some (v0, σ0, X0, cu, du)) (hlk : Cond.classLink own idx "TableMerge$State" ∈ TB) (hdg : decode cc pc = .ok (.anewarray idx, 3))
    (kk : ∀ σ1 X1 H1 cells slots cu du, cont σ1 X1 = some (v0, σ0, X0, cu, du) → Wd g σ1 X1 s H1 locs → z + 1 ≤ H1.size → s.heap.size + cells = z + 1 → (cells + cu = R.cells ∧ slots + du = R.slots) → W p l e R s m args below meth c H1 locs cells slots Q (F0 m (pc + 3) ls (.ref z :: rest))) : W p l e R s m args below meth c H locs cells slots Q (F0 m pc ls (.int k :: rest)) := by
  obtain ⟨⟨hk0, hk1⟩, h⟩ := if_inv h
  obtain ⟨c', d', hh, rfl, rfl⟩ := adc_inv h
  have hao := C.2.2.2.2.2.2.2.2.2.2.2.2.2.2.2.1
  obtain ⟨⟨hx, hb, hml, hown, hts⟩, hKK, hg, -, -⟩ := C
  refine wsz hz hc (fun hzz => ?_)
  obtain ⟨hP, hD, hS, hO⟩ := hW
  refine W.anew hx hb hown (hts _ hlk) (va_AO.use hao) rfl hdg rfl hk0 (by omega) (by omega) (by omega) fun cA kA comp f1 f2 f3 f4 => ?_
  generalize hH1 : H.push ({ cls := cA, slots := Array.replicate k.toNatClampNeg .null, vm := .none } : Cell) = H1
  have z1 : H1.size = H.size + 1 := by rw [← hH1, Array.size_push]
  have e1 : H1[H.size]? = some (arrV cA k.toNatClampNeg (fun _ => .null)) := by rw [← hH1, Array.getElem?_push_size, ← arrV_new]
  have o1 : ∀ q : Nat, q < H.size → H1[q]? = H[q]? := fun q hq => by rw [← hH1, Array.getElem?_push, if_neg (Nat.ne_of_lt hq)]
  have hcA : cA = g.2.1.2.2.1 := by
    obtain ⟨kA', comp', -, -, -, k4⟩ := (hKK.2 2 (g.2.1.2.2.1, .object "TableMerge$State") rfl).2
    exact Option.some.inj (f1.symm.trans k4)
  subst hcA
  rw [hzz] at e1
  have hk : ∀ (k : Nat) (x : Nat × va_E), (pool g σ X)[k]? = some x → H1[x.1]? = H[x.1]? := fun k x hx => o1 x.1 ((hP k x hx).lt)
  have hnz : z ∉ shL σ := fun hm => by have := pool_lt hP hm; omega
  have hKz : shK (shNew σ z 11 k.toNatClampNeg) z = 11 := by simp [shK, shNew]
  have hNz : shN (shNew σ z 11 k.toNatClampNeg) z = k.toNatClampNeg := by simp [shN, shNew]
  have hRz : shR (shNew σ z 11 k.toNatClampNeg) z = fun _ => none := by funext j; simp [shR, shNew]
  have heq := pool_new (g := g) (X := X) (kd := 11) (n := k.toNatClampNeg) (e := .inl (g.2.1.2.2.1, k.toNatClampNeg, .inr (.inr (.inr (.inr (fun _ => none)))))) hnz (by rw [cE_r hKz, hNz, hRz])
  have hP2 : va_P g.1 vwCl (pool g σ X ++ [(z, .inl (g.2.1.2.2.1, k.toNatClampNeg, .inr (.inr (.inr (.inr (fun _ => none))))))]) H1 := (hP.kept hk).app (fun j x hx => by
    have hz0 : j < 1 := (List.getElem?_eq_some_iff.mp hx).1
    rw [show j = 0 by omega] at hx
    cases hx
    exact e1)
  have hD2 := hD.push (e := .inl (g.2.1.2.2.1, k.toNatClampNeg, .inr (.inr (.inr (.inr (fun _ => none)))))) hP hzz.symm (show gA g z by rw [← hzz]; exact Nat.le_trans hg hS.1)
  rw [heq] at hP2 hD2
  have hW1 : Wd g (shNew σ z 11 k.toNatClampNeg) (xNew X z) s H1 locs := ⟨hP2, hD2, ⟨Nat.le_trans hS.1 (by omega), fun x h1 h2 => (o1 x (by have := Nat.lt_of_lt_of_le h1 hS.1; omega)).trans (hS.2.1 x h1 h2), hS.2.2⟩, ShOK_new hO⟩
  rw [hzz]
  exact kk _ _ _ _ _ _ _ hh hW1 (by omega) (by omega) ⟨by omega, by omega⟩
theorem flds_setR {k v : Nat} {a : Nat} (ht : fT (shK σ a) k = 1) : (flds σ X a).set k (.ref v) = flds (sR σ a k (some v)) X a := by
  have hK : shK (sR σ a k (some v)) a = shK σ a := rfl
  apply List.ext_getElem?
  intro j
  rw [List.getElem?_set]
  by_cases hj : k = j
  · subst hj
    rw [if_pos rfl, flds_len]
    by_cases hl : k < fN (shK σ a)
    · rw [if_pos hl, flds_get (by rw [hK]; exact hl), hK, ht]
      simp [fval, shR, sR, va_rf]
    · rw [if_neg hl]; simp [flds, hl, hK]
  · rw [if_neg hj]
    by_cases hl : j < fN (shK σ a)
    · rw [flds_get hl, flds_get (by rw [hK]; exact hl), hK]
      have : shR (sR σ a k (some v)) a j = shR σ a j := by
        have hj' : ¬ j = k := fun q => hj q.symm
        simp [shR, sR, hj']
      rw [this]
    · simp [flds, hl, hK]
theorem ShOK_sR {a k : Nat} {v : Option Nat} (h : ShOK σ) : ShOK (sR σ a k v) := h
/-- putfield of a reference -/
theorem r_pR (C : Cx g own cc nL rt p s m args meth c) (hW : Wd g σ X s H locs) {a k v : Nat} {ty : FieldType} {r : ρ} {cont : Sh → Option ρ} (h : stR σ ci a k v cont = some r) (hf : pOK own idx ci k 1 ty) (hc : ci < 9) (hn : narrow ty (.ref v) = .ref v) (hfit : fits ty (.ref v) = true) (hdg : decode cc pc = .ok (.putfield idx, 3))
    (kk : ∀ σ1 H1 locs1, cont σ1 = some r → Wd g σ1 X s H1 locs1 → H.size ≤ H1.size → W p l e R s m args below meth c H1 locs1 cells slots Q (F0 m (pc + 3) ls rest)) : W p l e R s m args below meth c H locs cells slots Q (F0 m pc ls (.ref v :: .ref a :: rest)) := by
  obtain ⟨hK, h⟩ := if_inv h
  obtain ⟨⟨hx, hb, hml, hown, hts⟩, hKK, -, -, -⟩ := C
  obtain ⟨hP, hD, hS, hO⟩ := hW
  obtain ⟨⟨C, T, N⟩, ty0, h1, h2, h3, h4, h5, h6, h7, h8, h9, h10⟩ := hf
  obtain ⟨kq, hkq⟩ := pool_get (g := g) (X := X) hO (show shK σ a < 13 by omega)
  have hkq0 := hkq
  rw [cE_obj hK hc] at hkq
  have hk : k < fN (shK σ a) := by rw [hK, ← h3]; exact h2
  subst h10
  refine va_put (v := .ref v) hx hb hts h6 ty0 h7 h8 hown hKK hP hD (va_S.here hS) kq hkq h1 k h2 (hts _ h5) (fun _ h9 => h9) h9 (h7 k h2) hn hfit (by rw [flds_len]; exact hk) hdg (fun H1 locs1 hP1 hD1 hS1 => ?_)
  have hset := pool_setR (j := k) (v := some v) (e := .inr (ci, (flds σ X a).set k (.ref v))) hD hO (show shK σ a < 13 by omega) hkq0 (by rw [flds_setR (by rw [hK]; exact h4), cE_obj (show shK (sR σ a k (some v)) a = ci from hK) hc])
  rw [hset] at hP1 hD1
  exact kk _ _ _ h ⟨hP1, hD1, hS.on hS1, ShOK_sR hO⟩ hS1.1
/-- .. of a final one, in a constructor -/
def pOKF (own : String) (idx ci k : Nat) (ty : FieldType) : Prop := ∃ (q : vw_C) (ty0 : Nat → FieldType), vwCl[ci]? = some q ∧ k < q.2.2 ∧ q.2.2 = fN ci ∧ fT ci k = 1 ∧ Cond.fieldLink own idx (q.2.1 k).1 (q.2.1 k).2.1 (q.2.1 k).2.2.1 ∈ TB ∧ (∀ w ∈ u_ws q.1 q.2.1 q.2.2, w ∈ TB) ∧ (∀ k, k < q.2.2 → parseFieldDescriptor (q.2.1 k).2.2.1 = some (ty0 k)) ∧ (∀ a, a < q.2.2 → ∀ b, b < q.2.2 → a ≠ b → (q.2.1 a).2.1 ≠ (q.2.1 b).2.1) ∧ (q.2.1 k).2.2.2 = true ∧ ty0 k = ty ∧ (q.2.1 k).1 = own
theorem r_pRF (C : Cx g own cc nL rt p s m args meth c) (hin : meth.name = "<init>") (hW : Wd g σ X s H locs) {a k v : Nat} {ty : FieldType} {r : ρ} {cont : Sh → Option ρ} (h : stR σ ci a k v cont = some r) (hf : pOKF own idx ci k ty) (hc : ci < 9) (hn : narrow ty (.ref v) = .ref v) (hfit : fits ty (.ref v) = true) (hdg : decode cc pc = .ok (.putfield idx, 3))
    (kk : ∀ σ1 H1 locs1, cont σ1 = some r → Wd g σ1 X s H1 locs1 → H.size ≤ H1.size → W p l e R s m args below meth c H1 locs1 cells slots Q (F0 m (pc + 3) ls rest)) : W p l e R s m args below meth c H locs cells slots Q (F0 m pc ls (.ref v :: .ref a :: rest)) := by
  obtain ⟨hK, h⟩ := if_inv h
  obtain ⟨⟨hx, hb, hml, hown, hts⟩, hKK, -, -, -⟩ := C
  obtain ⟨hP, hD, hS, hO⟩ := hW
  obtain ⟨⟨C, T, N⟩, ty0, h1, h2, h3, h4, h5, h6, h7, h8, h9, h10, h11⟩ := hf
  obtain ⟨kq, hkq⟩ := pool_get (g := g) (X := X) hO (show shK σ a < 13 by omega)
  have hkq0 := hkq
  rw [cE_obj hK hc] at hkq
  have hk : k < fN (shK σ a) := by rw [hK, ← h3]; exact h2
  subst h10
  refine va_putF (v := .ref v) hx hb hts h6 ty0 h7 h8 hown hKK hP hD (va_S.here hS) kq hkq h1 k h2 (hts _ h5) (fun _ h9 => h9) h9 hin h11 (h7 k h2) hn hfit (by rw [flds_len]; exact hk) hdg (fun H1 locs1 hP1 hD1 hS1 => ?_)
  have hset := pool_setR (j := k) (v := some v) (e := .inr (ci, (flds σ X a).set k (.ref v))) hD hO (show shK σ a < 13 by omega) hkq0 (by rw [flds_setR (by rw [hK]; exact h4), cE_obj (show shK (sR σ a k (some v)) a = ci from hK) hc])
  rw [hset] at hP1 hD1
  exact kk _ _ _ h ⟨hP1, hD1, hS.on hS1, ShOK_sR hO⟩ hS1.1
/-- aaload: a State, or null -/
theorem r_aldq (C : Cx g own cc nL rt p s m args meth c) (hW : Wd g σ X s H locs) {a : Nat} {i : Int32} {r : ρ} {cont : Nat → Option ρ} {nul : Option ρ} (h : ldQ σ a i cont nul = some r) (hdg : decode cc pc = .ok (.aaload, 1))
    (kk : ∀ b, cont b = some r → W p l e R s m args below meth c H locs cells slots Q (F0 m (pc + 1) ls (.ref b :: rest))) (kn : nul = some r → W p l e R s m args below meth c H locs cells slots Q (F0 m (pc + 1) ls (.null :: rest))) : W p l e R s m args below meth c H locs cells slots Q (F0 m pc ls (.int i :: .ref a :: rest)) := by
  obtain ⟨⟨hK, hi⟩, h⟩ := if_inv h
  obtain ⟨⟨hx, hb, hml, hown, hts⟩, hKK, -, -, -⟩ := C
  obtain ⟨hP, hD, hS, hO⟩ := hW
  obtain ⟨kq, hkq⟩ := pool_get (g := g) (X := X) hO (show shK σ a < 13 by omega)
  rw [cE_r hK] at hkq
  refine va_aldq hx hb hKK hP kq 2 hkq rfl hi hdg ?_
  cases hr : shR σ a i.toNatClampNeg with
  | none => rw [hr] at h; exact kn h
  | some b => rw [hr] at h; exact kk b h
theorem r_astq (C : Cx g own cc nL rt p s m args meth c) (hW : Wd g σ X s H locs) {a v : Nat} {i : Int32} {r : ρ} {cont : Sh → Option ρ} (h : stQ σ a i v cont = some r) (hdg : decode cc pc = .ok (.aastore, 1))
    (kk : ∀ σ1 H1 locs1, cont σ1 = some r → Wd g σ1 X s H1 locs1 → H.size ≤ H1.size → W p l e R s m args below meth c H1 locs1 cells slots Q (F0 m (pc + 1) ls rest)) : W p l e R s m args below meth c H locs cells slots Q (F0 m pc ls (.ref v :: .int i :: .ref a :: rest)) := by
  obtain ⟨⟨⟨hK, hi⟩, hv⟩, h⟩ := if_inv h
  obtain ⟨⟨hx, hb, hml, hown, hts⟩, hKK, -, -, -⟩ := C
  obtain ⟨hP, hD, hS, hO⟩ := hW
  obtain ⟨kq, hkq⟩ := pool_get (g := g) (X := X) hO (show shK σ a < 13 by omega)
  obtain ⟨kv, hkv⟩ := pool_get (g := g) (X := X) hO (show shK σ v < 13 by omega)
  have hkq0 := hkq
  rw [cE_r hK] at hkq
  rw [cE_obj hv (by decide)] at hkv
  refine va_astq (r := (RX5, TX5, 10)) hx hb hKK hP hD (va_S.here hS) kq 2 kv 4 hkq rfl hkv rfl hi hdg (fun H1 locs1 hP1 hD1 hS1 => ?_)
  have hset := pool_setR (j := i.toNatClampNeg) (v := some v) (e := .inl (g.2.1.2.2.1, shN σ a, .inr (.inr (.inr (.inr (va_up (shR σ a) i.toNatClampNeg (some v))))))) hD hO (show shK σ a < 13 by omega) hkq0 (by
    rw [cE_r (show shK (sR σ a i.toNatClampNeg (some v)) a = 11 from hK)]
    refine congrArg (fun f => Sum.inl (g.2.1.2.2.1, shN σ a, Sum.inr (Sum.inr (Sum.inr (Sum.inr f))))) ?_
    funext j
    simp [shR, sR, va_up])
  rw [hset] at hP1 hD1
  exact kk _ _ _ h ⟨hP1, hD1, hS.on hS1, ShOK_sR hO⟩ hS1.1
theorem r_obj (C : Cx g own cc nL rt p s m args meth c) {a : Nat} (hl : Cond.methodLink own idx Lib.objectInit ∈ TB) (hR : 1 ≤ R.frames ∧ (rest.map fun v => v.category).sum + 12 ≤ R.locals) (hls : ls.size = nL) (hdg : decode cc pc = .ok (.invokespecial idx, 3)) (kk : W p l e R s m args below meth c H locs cells slots Q (F0 m (pc + 3) ls rest)) : W p l e R s m args below meth c H locs cells slots Q (F0 m pc ls (.ref a :: rest)) := by
  obtain ⟨⟨hx, hb, hml, hown, hts⟩, -⟩ := C
  exact W.objInit hx hb hown (hts _ hl) (hts _ oi_inst) (hts _ oi_code) rfl (hls.trans hml.symm) rfl hdg hR.1 (by show 2 * 0 + _ + 12 ≤ _; omega) kk
theorem hm_le {mc ms : Nat} (hm : cells + cu = mc ∧ slots + du = ms) : cells ≤ mc ∧ slots ≤ ms := ⟨Nat.le.intro hm.1, Nat.le.intro hm.2⟩
/-! calls of such methods -/
theorem rph_pre (C : Cx g own cc nL rt p s m args meth c) (hW : Wd g σ X s H locs) (hzz : H.size = z) {av : List Value} : ∀ U : State, U.heap = H → s.WarmedH U.vm → va_Pc av (RpH g σ X z) av.toArray U := fun U hU hw => ⟨rfl, (rp_pre C hW (av := av) U hU hw).2, by rw [hU]; exact hzz⟩
theorem run_HV {mc ms : Nat} (C : Cx g own cc nL rt p s m args meth c) (hW : Wd g σ X s H locs) (hzz : H.size = z) {Qc : Array Value → State → Outcome → State → Prop} (hM : Met l y (Cond.code y cy nLy rty :: TB) (rmH fr lo mc ms) (va_Pc (.ref b :: As) (RpH g σ X z)) Qc mc ms (gA g)) (hm : mOK y cy nLy rty n) (hv : vOK own idx y) (hb : shK σ b = ci) (hc : vwCl[ci]? = some q) (hq : q.1 = y.cls) (h9 : ci < 9) (hR : fr + 1 ≤ R.frames ∧ 8 + (nLy + 11) + lo ≤ R.locals) (hcs : cells + mc ≤ R.cells ∧ slots + ms ≤ R.slots) (hn : As.length = n) (hst : st0 = As.reverse ++ .ref b :: rest) (hsz : (rest.map fun v => v.category).sum ≤ 8) (hls : ls.size = nL) (hdg : decode cc pc = .ok (.invokevirtual idx, 3)) :
    va_Run p l e R s m args below meth c H locs cells slots mc ms (F0 m pc ls st0) rest (Qc (Value.ref b :: As).toArray) (gA g) := by
  have hts := C.1.2.2.2.2
  obtain ⟨h1, h2, h3, h4⟩ := hm
  obtain ⟨v1, v2, v3⟩ := hv
  obtain ⟨kq, hkq⟩ := pool_get (g := g) (X := X) hW.2.2.2 (show shK σ b < 13 by omega)
  rw [cE_obj hb h9] at hkq
  have hrv := va_recv C.2.1 hW.1 hc hkq
  rw [hq] at hrv
  exact va_runV (C := y.cls) (As := As) C.1 hM ⟨callB_of n hts (tb_code h1) rfl rfl rfl (hts _ h4) (hts _ v1) h3 hR, hts _ v2, hts _ v3⟩ ⟨rph_blind, hrv, rph_pre C hW hzz⟩ rfl hn hls hst (lv_room hsz) hdg hcs
theorem run_HI {mc ms : Nat} (C : Cx g own cc nL rt p s m args meth c) (hW : Wd g σ X s H locs) (hzz : H.size = z) {Qc : Array Value → State → Outcome → State → Prop} (hM : Met l y (Cond.code y cy nLy none :: TB) (rmH fr lo mc ms) (va_Pc (.ref b :: As) (RpH g σ X z)) Qc mc ms (gA g)) (hm : mOK y cy nLy none n) (hv : Cond.methodLink own idx y ∈ TB ∧ Cond.instanceMethod y ∈ TB) (hy : y.name = "<init>") (hR : fr + 1 ≤ R.frames ∧ 8 + (nLy + 11) + lo ≤ R.locals) (hcs : cells + mc ≤ R.cells ∧ slots + ms ≤ R.slots) (hn : As.length = n) (hst : st0 = As.reverse ++ .ref b :: rest) (hsz : (rest.map fun v => v.category).sum ≤ 8) (hls : ls.size = nL) (hdg : decode cc pc = .ok (.invokespecial idx, 3)) :
    va_Run p l e R s m args below meth c H locs cells slots mc ms (F0 m pc ls st0) rest (Qc (Value.ref b :: As).toArray) (gA g) := by
  have hts := C.1.2.2.2.2
  obtain ⟨h1, h2, h3, h4⟩ := hm
  exact va_runI (As := As) C.1 hM ⟨callB_of n hts (tb_code h1) rfl rfl rfl (hts _ h4) (hts _ hv.1) h3 hR, hy, hts _ hv.2⟩ ⟨rph_blind, rph_pre C hW hzz⟩ rfl hn hls hst (lv_room hsz) hdg hcs
theorem run_HIN {mc ms : Nat} {host : String} (C : Cx g own cc nL rt p s m args meth c) (hW : Wd g σ X s H locs) (hzz : H.size = z) {Qc : Array Value → State → Outcome → State → Prop} (hM : Met l y (Cond.code y cy nLy none :: TB) (rmH fr lo mc ms) (va_Pc (.ref b :: As) (RpH g σ X z)) Qc mc ms (gA g)) (hm : mOK y cy nLy none n) (hv : (own, idx, y, host) ∈ nwN ∧ Cond.instanceMethod y ∈ TB) (hy : y.name = "<init>") (hR : fr + 1 ≤ R.frames ∧ 8 + (nLy + 11) + lo ≤ R.locals) (hcs : cells + mc ≤ R.cells ∧ slots + ms ≤ R.slots) (hn : As.length = n) (hst : st0 = As.reverse ++ .ref b :: rest) (hsz : (rest.map fun v => v.category).sum ≤ 8) (hls : ls.size = nL) (hdg : decode cc pc = .ok (.invokespecial idx, 3)) :
    va_Run p l e R s m args below meth c H locs cells slots mc ms (F0 m pc ls st0) rest (Qc (Value.ref b :: As).toArray) (gA g) := by
  have hts := C.1.2.2.2.2
  obtain ⟨h1, h2, h3, h4⟩ := hm
  exact va_runIN (As := As) C.1 hM ⟨va_cnB n hts (tb_code h1) rfl rfl rfl (C.2.2.2.2.2.2.2.2.2.2.2.2.1 _ hv.1) (hts _ h4) h3 hR, hy, hts _ hv.2⟩ ⟨rph_blind, rph_pre C hW hzz⟩ rfl hn hls hst (lv_room hsz) hdg hcs
theorem r_hcI {a : Array Value} {w : Int32} {σ1 : Sh} {X1 : Mx} {c1 d1 : Nat} (hW : Wd g σ X s H locs) (hc : s.heap.size + cells = z) (hm : cells + (cu + c1) = R.cells ∧ slots + (du + d1) = R.slots) (hr : va_Run p l e R s m args below meth c H locs cells slots c1 d1 (F0 m pc ls st0) rest (va_Qi (fun v u => v = w ∧ u = (σ1, X1)) (fun u t => RpH g u.1 u.2 (z + c1) t) (gA g) a) (gA g)) (kk : ∀ H1 locs1 cells slots, Wd g σ1 X1 s H1 locs1 → z + c1 ≤ H1.size → s.heap.size + cells = z + c1 → (cells + cu = R.cells ∧ slots + du = R.slots) → W p l e R s m args below meth c H1 locs1 cells slots Q (F0 m (pc + 3) ls (.int w :: rest))) : W p l e R s m args below meth c H locs cells slots Q (F0 m pc ls st0) := by
  refine va_calli hr hW.2.2.1 (fun q _ h => h) (fun q h => h) (fun v u t H1 locs1 ht hvm hw hB hz hk hS => ?_)
  obtain ⟨rfl, rfl⟩ := hw
  obtain ⟨⟨hP1, hK1, hD1, hz1, hO, -⟩, hsz⟩ := hB
  rw [ht] at hP1 hsz
  exact kk _ _ _ _ ⟨hP1, hD1, hS, hO⟩ (by rw [hsz]; exact Nat.le_refl _) (by omega) ⟨by omega, by omega⟩
theorem r_hcV {a : Array Value} {σ1 : Sh} {X1 : Mx} {c1 d1 : Nat} (hW : Wd g σ X s H locs) (hc : s.heap.size + cells = z) (hm : cells + (cu + c1) = R.cells ∧ slots + (du + d1) = R.slots) (hr : va_Run p l e R s m args below meth c H locs cells slots c1 d1 (F0 m pc ls st0) rest (va_Qv (fun u => u = (σ1, X1)) (fun u t => RpH g u.1 u.2 (z + c1) t) (gA g) a) (gA g)) (kk : ∀ H1 locs1 cells slots, Wd g σ1 X1 s H1 locs1 → z + c1 ≤ H1.size → s.heap.size + cells = z + c1 → (cells + cu = R.cells ∧ slots + du = R.slots) → W p l e R s m args below meth c H1 locs1 cells slots Q (F0 m (pc + 3) ls rest)) : W p l e R s m args below meth c H locs cells slots Q (F0 m pc ls st0) := by
  refine va_callv hr hW.2.2.1 (fun q _ h => h) (fun q h => h) (fun u t H1 locs1 ht hvm hw hB hz hk hS => ?_)
  subst hw
  obtain ⟨⟨hP1, hK1, hD1, hz1, hO, -⟩, hsz⟩ := hB
  rw [ht] at hP1 hsz
  exact kk _ _ _ _ ⟨hP1, hD1, hS, hO⟩ (by rw [hsz]; exact Nat.le_refl _) (by omega) ⟨by omega, by omega⟩
theorem r_hcR {a : Array Value} {w : Nat} {σ1 : Sh} {X1 : Mx} {c1 d1 : Nat} (hW : Wd g σ X s H locs) (hc : s.heap.size + cells = z) (hm : cells + (cu + c1) = R.cells ∧ slots + (du + d1) = R.slots) (hr : va_Run p l e R s m args below meth c H locs cells slots c1 d1 (F0 m pc ls st0) rest (va_Qr (fun u => u = (σ1, X1)) (fun u a t => a = w ∧ RpH g u.1 u.2 (z + c1) t) (gA g) a) (gA g)) (kk : ∀ H1 locs1 cells slots, Wd g σ1 X1 s H1 locs1 → z + c1 ≤ H1.size → s.heap.size + cells = z + c1 → (cells + cu = R.cells ∧ slots + du = R.slots) → W p l e R s m args below meth c H1 locs1 cells slots Q (F0 m (pc + 3) ls (.ref w :: rest))) : W p l e R s m args below meth c H locs cells slots Q (F0 m pc ls st0) := by
  refine va_callr hr hW.2.2.1 (fun q _ h => h) (fun q h => h) (fun u v t H1 locs1 ht hvm hw hB hz hk hS => ?_)
  subst hw
  obtain ⟨rfl, ⟨hP1, hK1, hD1, hz1, hO, -⟩, hsz⟩ := hB
  rw [ht] at hP1 hsz
  exact kk _ _ _ _ ⟨hP1, hD1, hS, hO⟩ (by rw [hsz]; exact Nat.le_refl _) (by omega) ⟨by omega, by omega⟩
theorem hm_call {c1 d1 c' d' : Nat} {mc ms : Nat} (h1 : cu = c' + c1) (h2 : du = d' + d1) (hm : cells + cu = mc ∧ slots + du = ms) : (cells + (c' + c1) = mc ∧ slots + (d' + d1) = ms) ∧ (cells + c1 ≤ mc ∧ slots + d1 ≤ ms) := by
  subst h1; subst h2
  exact ⟨hm, by omega, by omega⟩
theorem c_HI_V {mc ms fr1 lo1 c' d' c1 d1 : Nat} {w : Unit} {σ1 : Sh} {X1 : Mx} (C : Cx g own cc nL rt p s m args meth c) (hW : Wd g σ X s H locs) (hz : z ≤ H.size) (hc : s.heap.size + cells = z) (hcu : cu = c' + c1) (hdu : du = d' + d1) (hm : cells + cu = mc ∧ slots + du = ms) (hM : HvV g l y cy nLy none fr1 lo1 (.ref b :: As) σ X z (w, σ1, X1, c1, d1)) (hmk : mOK y cy nLy none n) (hv : Cond.methodLink own idx y ∈ TB ∧ Cond.instanceMethod y ∈ TB) (hy : y.name = "<init>") (hR : fr1 + 1 ≤ fr ∧ 8 + (nLy + 11) + lo1 ≤ lo) (hn : As.length = n) (hst : st0 = As.reverse ++ .ref b :: rest) (hsz : (rest.map fun v => v.category).sum ≤ 8) (hls : ls.size = nL) (hdg : decode cc pc = .ok (.invokespecial idx, 3))
    (kk : ∀ H1 locs1 cells slots, Wd g σ1 X1 s H1 locs1 → z + c1 ≤ H1.size → s.heap.size + cells = z + c1 → (cells + c' = mc ∧ slots + d' = ms) → W p l e (rmH fr lo mc ms) s m args below meth c H1 locs1 cells slots Q (F0 m (pc + 3) ls (rest))) : W p l e (rmH fr lo mc ms) s m args below meth c H locs cells slots Q (F0 m pc ls st0) := by
  obtain ⟨hm, hcs⟩ := hm_call hcu hdu hm
  exact wsz hz hc (fun hzz => r_hcV (R := rmH fr lo mc ms) hW hc hm (run_HI (R := rmH fr lo mc ms) (mc := c1) (ms := d1) (As := As) (rest := rest) C hW hzz hM hmk hv hy hR hcs hn hst hsz hls hdg) kk)
theorem c_HIN_V {mc ms fr1 lo1 c' d' c1 d1 : Nat} {host : String} {w : Unit} {σ1 : Sh} {X1 : Mx} (C : Cx g own cc nL rt p s m args meth c) (hW : Wd g σ X s H locs) (hz : z ≤ H.size) (hc : s.heap.size + cells = z) (hcu : cu = c' + c1) (hdu : du = d' + d1) (hm : cells + cu = mc ∧ slots + du = ms) (hM : HvV g l y cy nLy none fr1 lo1 (.ref b :: As) σ X z (w, σ1, X1, c1, d1)) (hmk : mOK y cy nLy none n) (hv : (own, idx, y, host) ∈ nwN ∧ Cond.instanceMethod y ∈ TB) (hy : y.name = "<init>") (hR : fr1 + 1 ≤ fr ∧ 8 + (nLy + 11) + lo1 ≤ lo) (hn : As.length = n) (hst : st0 = As.reverse ++ .ref b :: rest) (hsz : (rest.map fun v => v.category).sum ≤ 8) (hls : ls.size = nL) (hdg : decode cc pc = .ok (.invokespecial idx, 3))
    (kk : ∀ H1 locs1 cells slots, Wd g σ1 X1 s H1 locs1 → z + c1 ≤ H1.size → s.heap.size + cells = z + c1 → (cells + c' = mc ∧ slots + d' = ms) → W p l e (rmH fr lo mc ms) s m args below meth c H1 locs1 cells slots Q (F0 m (pc + 3) ls (rest))) : W p l e (rmH fr lo mc ms) s m args below meth c H locs cells slots Q (F0 m pc ls st0) := by
  obtain ⟨hm, hcs⟩ := hm_call hcu hdu hm
  exact wsz hz hc (fun hzz => r_hcV (R := rmH fr lo mc ms) hW hc hm (run_HIN (R := rmH fr lo mc ms) (mc := c1) (ms := d1) (As := As) (rest := rest) C hW hzz hM hmk hv hy hR hcs hn hst hsz hls hdg) kk)
theorem c_HV_V {mc ms fr1 lo1 c' d' c1 d1 : Nat} {w : Unit} {σ1 : Sh} {X1 : Mx} (C : Cx g own cc nL rt p s m args meth c) (hW : Wd g σ X s H locs) (hz : z ≤ H.size) (hc : s.heap.size + cells = z) (hcu : cu = c' + c1) (hdu : du = d' + d1) (hm : cells + cu = mc ∧ slots + du = ms) (hM : HvV g l y cy nLy rty fr1 lo1 (.ref b :: As) σ X z (w, σ1, X1, c1, d1)) (hmk : mOK y cy nLy rty n) (hv : vOK own idx y) (hb : shK σ b = ci) (hvc : vwCl[ci]? = some q) (hq : q.1 = y.cls) (h9 : ci < 9) (hR : fr1 + 1 ≤ fr ∧ 8 + (nLy + 11) + lo1 ≤ lo) (hn : As.length = n) (hst : st0 = As.reverse ++ .ref b :: rest) (hsz : (rest.map fun v => v.category).sum ≤ 8) (hls : ls.size = nL) (hdg : decode cc pc = .ok (.invokevirtual idx, 3))
    (kk : ∀ H1 locs1 cells slots, Wd g σ1 X1 s H1 locs1 → z + c1 ≤ H1.size → s.heap.size + cells = z + c1 → (cells + c' = mc ∧ slots + d' = ms) → W p l e (rmH fr lo mc ms) s m args below meth c H1 locs1 cells slots Q (F0 m (pc + 3) ls (rest))) : W p l e (rmH fr lo mc ms) s m args below meth c H locs cells slots Q (F0 m pc ls st0) := by
  obtain ⟨hm, hcs⟩ := hm_call hcu hdu hm
  exact wsz hz hc (fun hzz => r_hcV (R := rmH fr lo mc ms) hW hc hm (run_HV (R := rmH fr lo mc ms) (mc := c1) (ms := d1) (As := As) (rest := rest) C hW hzz hM hmk hv hb hvc hq h9 hR hcs hn hst hsz hls hdg) kk)
theorem c_HV_I {mc ms fr1 lo1 c' d' c1 d1 : Nat} {w : Int32} {σ1 : Sh} {X1 : Mx} (C : Cx g own cc nL rt p s m args meth c) (hW : Wd g σ X s H locs) (hz : z ≤ H.size) (hc : s.heap.size + cells = z) (hcu : cu = c' + c1) (hdu : du = d' + d1) (hm : cells + cu = mc ∧ slots + du = ms) (hM : HvI g l y cy nLy rty fr1 lo1 (.ref b :: As) σ X z (w, σ1, X1, c1, d1)) (hmk : mOK y cy nLy rty n) (hv : vOK own idx y) (hb : shK σ b = ci) (hvc : vwCl[ci]? = some q) (hq : q.1 = y.cls) (h9 : ci < 9) (hR : fr1 + 1 ≤ fr ∧ 8 + (nLy + 11) + lo1 ≤ lo) (hn : As.length = n) (hst : st0 = As.reverse ++ .ref b :: rest) (hsz : (rest.map fun v => v.category).sum ≤ 8) (hls : ls.size = nL) (hdg : decode cc pc = .ok (.invokevirtual idx, 3))
    (kk : ∀ H1 locs1 cells slots, Wd g σ1 X1 s H1 locs1 → z + c1 ≤ H1.size → s.heap.size + cells = z + c1 → (cells + c' = mc ∧ slots + d' = ms) → W p l e (rmH fr lo mc ms) s m args below meth c H1 locs1 cells slots Q (F0 m (pc + 3) ls (.int w :: rest))) : W p l e (rmH fr lo mc ms) s m args below meth c H locs cells slots Q (F0 m pc ls st0) := by
  obtain ⟨hm, hcs⟩ := hm_call hcu hdu hm
  exact wsz hz hc (fun hzz => r_hcI (R := rmH fr lo mc ms) hW hc hm (run_HV (R := rmH fr lo mc ms) (mc := c1) (ms := d1) (As := As) (rest := rest) C hW hzz hM hmk hv hb hvc hq h9 hR hcs hn hst hsz hls hdg) kk)
theorem c_HV_R {mc ms fr1 lo1 c' d' c1 d1 : Nat} {w : Nat} {σ1 : Sh} {X1 : Mx} (C : Cx g own cc nL rt p s m args meth c) (hW : Wd g σ X s H locs) (hz : z ≤ H.size) (hc : s.heap.size + cells = z) (hcu : cu = c' + c1) (hdu : du = d' + d1) (hm : cells + cu = mc ∧ slots + du = ms) (hM : HvR g l y cy nLy rty fr1 lo1 (.ref b :: As) σ X z (w, σ1, X1, c1, d1)) (hmk : mOK y cy nLy rty n) (hv : vOK own idx y) (hb : shK σ b = ci) (hvc : vwCl[ci]? = some q) (hq : q.1 = y.cls) (h9 : ci < 9) (hR : fr1 + 1 ≤ fr ∧ 8 + (nLy + 11) + lo1 ≤ lo) (hn : As.length = n) (hst : st0 = As.reverse ++ .ref b :: rest) (hsz : (rest.map fun v => v.category).sum ≤ 8) (hls : ls.size = nL) (hdg : decode cc pc = .ok (.invokevirtual idx, 3))
    (kk : ∀ H1 locs1 cells slots, Wd g σ1 X1 s H1 locs1 → z + c1 ≤ H1.size → s.heap.size + cells = z + c1 → (cells + c' = mc ∧ slots + d' = ms) → W p l e (rmH fr lo mc ms) s m args below meth c H1 locs1 cells slots Q (F0 m (pc + 3) ls (.ref w :: rest))) : W p l e (rmH fr lo mc ms) s m args below meth c H locs cells slots Q (F0 m pc ls st0) := by
  obtain ⟨hm, hcs⟩ := hm_call hcu hdu hm
  exact wsz hz hc (fun hzz => r_hcR (R := rmH fr lo mc ms) hW hc hm (run_HV (R := rmH fr lo mc ms) (mc := c1) (ms := d1) (As := As) (rest := rest) C hW hzz hM hmk hv hb hvc hq h9 hR hcs hn hst hsz hls hdg) kk)
/-! their returns -/
theorem hq_of {mc ms zf : Nat} (hzf : s.heap.size + mc = zf) (hsc : Sc g s s.heap) (hK : va_K g.1 vwCl (tys g) s) (hg : gB g ≤ s.heap.size) (hW : Wd g σ X s H locs) (hzz : H.size = z) (hc : s.heap.size + mc = z) (t : State) (ht : t.heap = H) (hw : s.WarmedH t.vm) : RpH g σ X zf t := by
  obtain ⟨hP, hD, hS, hO⟩ := hW
  exact ⟨⟨by rw [ht]; exact hP, va_K.moved hw.alike hK, hD, by rw [ht]; exact Nat.le_trans hg hS.1, hO, Sc.warm hw (fun a h1 h2 => by rw [ht]; exact hS.2.1 a h1 h2) hsc⟩, by rw [ht, hzz, ← hc, hzf]⟩
theorem r_hiret {ty : FieldType} {mc ms zf : Nat} {v w0 : Int32} (C : Cx g own cc nL (some ty) p s m args meth c) (hzf : s.heap.size + mc = zf) (hW : Wd g σ X s H locs) (hz : z ≤ H.size) (hc : s.heap.size + cells = z) (hm : cells + cu = mc ∧ slots + du = ms) (h : some (v, σ, X, 0, 0) = some (w0, σ0, X0, cu, du)) (hn : narrow ty (.int v) = .int v) (hdg : decode cc pc = .ok (.ireturn, 1)) : W p l e (rmH fr lo mc ms) s m args below meth c H locs cells slots (QHI g below args s mc ms zf w0 σ0 X0) (F0 m pc ls [.int v]) := by
  simp only [Option.some.injEq, Prod.mk.injEq] at h
  obtain ⟨rfl, rfl, rfl, rfl, rfl⟩ := h
  obtain ⟨rfl, rfl⟩ := hm
  refine wsz hz hc (fun hzz => ?_)
  obtain ⟨⟨hx, hb, hml, hown, hts⟩, hK, hg, hr, hlocks, hsc⟩ := C
  exact W.zret hx hb hr hn (fun t ht hw => ⟨⟨v, (σ, X), rfl, ⟨rfl, rfl⟩, hq_of (ms := slots) hzf hsc hK hg hW hzz hc t ht hw⟩, hW.2.2.1.F ht⟩) hW.2.2.1.2.2 hdg hlocks
theorem r_hvret {mc ms zf : Nat} {w0 : Unit} (C : Cx g own cc nL none p s m args meth c) (hzf : s.heap.size + mc = zf) (hW : Wd g σ X s H locs) (hz : z ≤ H.size) (hc : s.heap.size + cells = z) (hm : cells + cu = mc ∧ slots + du = ms) (h : some ((), σ, X, 0, 0) = some (w0, σ0, X0, cu, du)) (hdg : decode cc pc = .ok (.return_, 1)) : W p l e (rmH fr lo mc ms) s m args below meth c H locs cells slots (QHV g below args s mc ms zf w0 σ0 X0) (F0 m pc ls []) := by
  simp only [Option.some.injEq, Prod.mk.injEq] at h
  obtain ⟨-, rfl, rfl, rfl, rfl⟩ := h
  obtain ⟨rfl, rfl⟩ := hm
  refine wsz hz hc (fun hzz => ?_)
  obtain ⟨⟨hx, hb, hml, hown, hts⟩, hK, hg, hr, hlocks, hsc⟩ := C
  exact W.vret hx hb hr (fun t ht hw => ⟨⟨(σ, X), rfl, rfl, hq_of (ms := slots) hzf hsc hK hg hW hzz hc t ht hw⟩, hW.2.2.1.F ht⟩) hW.2.2.1.2.2 hdg hlocks
theorem r_haret {nm : String} {mc ms zf : Nat} {v w0 : Nat} (C : Cx g own cc nL (some (.object nm)) p s m args meth c) (hzf : s.heap.size + mc = zf) (hW : Wd g σ X s H locs) (hz : z ≤ H.size) (hc : s.heap.size + cells = z) (hm : cells + cu = mc ∧ slots + du = ms) (h : some (v, σ, X, 0, 0) = some (w0, σ0, X0, cu, du)) (hdg : decode cc pc = .ok (.areturn, 1)) : W p l e (rmH fr lo mc ms) s m args below meth c H locs cells slots (QHR g below args s mc ms zf w0 σ0 X0) (F0 m pc ls [.ref v]) := by
  simp only [Option.some.injEq, Prod.mk.injEq] at h
  obtain ⟨rfl, rfl, rfl, rfl, rfl⟩ := h
  obtain ⟨rfl, rfl⟩ := hm
  refine wsz hz hc (fun hzz => ?_)
  obtain ⟨⟨hx, hb, hml, hown, hts⟩, hK, hg, hr, hlocks, hsc⟩ := C
  exact W.aret (v := .ref v) hx hb hr (Or.inl ⟨_, rfl⟩) (Or.inr ⟨_, rfl⟩) (fun t ht hw => ⟨⟨(σ, X), v, rfl, rfl, rfl, hq_of (ms := slots) hzf hsc hK hg hW hzz hc t ht hw⟩, hW.2.2.1.F ht⟩) hW.2.2.1.2.2 hdg hlocks
theorem met_ofH {mc ms : Nat} {av : List Value} {Qc : Array Value → State → Outcome → State → Prop} (hm : mOK y cy nLy rty n) (hlen : (lg_sl av).length ≤ nLy)
    (body : ∀ (p : Program) (e : Env) (s : State) (m : MethodId) (args : Array Value) (below : List Frame) (meth : Method) (c : Code) (ls : Array Slot), Cx g y.cls cy nLy rty p s m args meth c → meth.name = y.name → Wd g σ X s s.heap [] → s.heap.size = z → lv_has ls nLy (lv_args 0 av) →
      W p l e (rmH fr lo mc ms) s m args below meth c s.heap [] 0 0 (MQ below Qc args s mc ms (gA g)) (F0 m 0 ls [])) : Met l y (Cond.code y cy nLy rty :: TB) (rmH fr lo mc ms) (va_Pc av (RpH g σ X z)) Qc mc ms (gA g) := by
  refine metW (cc := cy) (maxL := nLy) (ret := rty) hm.2.1 rfl ?_
  intro p e s m args below meth c s₁ B hml hv
  obtain ⟨rfl, ⟨hP, hK, hD, hg, hO, hsc⟩, hzz⟩ := hv
  have hts := atoms_spec (ws := Cond.code y cy nLy rty :: TB) B.pre
  have hown : s.vm.findClass y.cls = some m.cls := findClass_of_methodNamed B.named
  rw [lg_entry_eq]
  exact body p e s m _ below meth c _ ⟨⟨B.exec, B.bytes, hml, hown, fun w h => hts w (List.mem_cons_of_mem _ h)⟩, hK, hg, B.returns, B.notSynchronized, hsc⟩ (name_of_methodNamed B.named B.method).1 ⟨hP, hD, va_S.rf, hO⟩ hzz (lv_entry av hlen)
end HEAVY
