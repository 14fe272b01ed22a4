/-! ===== methods that return or throw ===== -/
def xcN (k : Nat) : String := if k = 0 then "java/util/NoSuchElementException" else "java/lang/IllegalArgumentException"
abbrev xNames : List String := ["java/lang/RuntimeException", "java/lang/Exception"]
/-- what is left of the world where a throw leaves a method -/
def Rq (g : Gp) (σ : Sh) (X : Mx) (t : State) : Prop := va_P g.1 vwCl (pool g σ X) t.heap ∧ va_D (gA g) (pool g σ X) ∧ ShOK σ
def bndX {α ρ : Type} (o : Option (Hr (α ⊕ Nat))) (k : α → Sh → Mx → Nat → Nat → Option (Hr (ρ ⊕ Nat))) : Option (Hr (ρ ⊕ Nat)) := match o with
  | some q => (match q.1 with
    | .inl v => adc q.2.2.2.1 q.2.2.2.2 (k v q.2.1 q.2.2.1 q.2.2.2.1 q.2.2.2.2)
    | .inr x => some (.inr x, q.2))
  | none => none
theorem bndX_inv {α ρ : Type} {o : Option (Hr (α ⊕ Nat))} {k : α → Sh → Mx → Nat → Nat → Option (Hr (ρ ⊕ Nat))} {r : Hr (ρ ⊕ Nat)} (h : bndX o k = some r) : ∃ o1, o = some o1 ∧ bndX (some o1) k = some r := by
  cases o with
  | none => cases h
  | some q => exact ⟨q, rfl, h⟩
abbrev XCq (g : Gp) {ρ : Type} (w0 : ρ ⊕ Nat) (σ0 : Sh) (X0 : Mx) : String → State → State → Prop := vx_X (fun u : Nat => w0 = .inr u) (fun E u t => E = xcN u ∧ Rq g σ0 X0 t) (gA g)
abbrev QcI (g : Gp) (zf : Nat) (w0 : Int32 ⊕ Nat) (σ0 : Sh) (X0 : Mx) : Array Value → State → Outcome → State → Prop := va_Qi (fun v u => w0 = .inl v ∧ u = (σ0, X0)) (fun u t => RpH g u.1 u.2 zf t) (gA g)
abbrev QcV (g : Gp) (zf : Nat) (w0 : Unit ⊕ Nat) (σ0 : Sh) (X0 : Mx) : Array Value → State → Outcome → State → Prop := va_Qv (fun u => w0 = .inl () ∧ u = (σ0, X0)) (fun u t => RpH g u.1 u.2 zf t) (gA g)
abbrev QcR (g : Gp) (zf : Nat) (w0 : Nat ⊕ Nat) (σ0 : Sh) (X0 : Mx) : Array Value → State → Outcome → State → Prop := va_Qr (fun u => u = (σ0, X0)) (fun u a t => w0 = .inl a ∧ RpH g u.1 u.2 zf t) (gA g)
def HxI (g : Gp) (l : Launch) (y : MethodName) (cy : ByteArray) (nL : Nat) (rt : Option FieldType) (fr lo : Nat) (av : List Value) (σ : Sh) (X : Mx) (z : Nat) (r : Hr (Int32 ⊕ Nat)) : Prop :=
  vx_Met l y (Cond.code y cy nL rt :: TB) (rmH fr lo r.2.2.2.1 r.2.2.2.2) (va_Pc av (RpH g σ X z)) (QcI g (z + r.2.2.2.1) r.1 r.2.1 r.2.2.1) (XCq g r.1 r.2.1 r.2.2.1) r.2.2.2.1 r.2.2.2.2 (gA g)
def HxV (g : Gp) (l : Launch) (y : MethodName) (cy : ByteArray) (nL : Nat) (rt : Option FieldType) (fr lo : Nat) (av : List Value) (σ : Sh) (X : Mx) (z : Nat) (r : Hr (Unit ⊕ Nat)) : Prop :=
  vx_Met l y (Cond.code y cy nL rt :: TB) (rmH fr lo r.2.2.2.1 r.2.2.2.2) (va_Pc av (RpH g σ X z)) (QcV g (z + r.2.2.2.1) r.1 r.2.1 r.2.2.1) (XCq g r.1 r.2.1 r.2.2.1) r.2.2.2.1 r.2.2.2.2 (gA g)
def HxR (g : Gp) (l : Launch) (y : MethodName) (cy : ByteArray) (nL : Nat) (rt : Option FieldType) (fr lo : Nat) (av : List Value) (σ : Sh) (X : Mx) (z : Nat) (r : Hr (Nat ⊕ Nat)) : Prop :=
  vx_Met l y (Cond.code y cy nL rt :: TB) (rmH fr lo r.2.2.2.1 r.2.2.2.2) (va_Pc av (RpH g σ X z)) (QcR g (z + r.2.2.2.1) r.1 r.2.1 r.2.2.1) (XCq g r.1 r.2.1 r.2.2.1) r.2.2.2.1 r.2.2.2.2 (gA g)
abbrev QXI (g : Gp) (below : List Frame) (args : Array Value) (s : State) (mc ms zf : Nat) (w0 : Int32 ⊕ Nat) (σ0 : Sh) (X0 : Mx) : State → Prop := vx_MQ below (QcI g zf w0 σ0 X0) (XCq g w0 σ0 X0) args s mc ms (gA g)
abbrev QXV (g : Gp) (below : List Frame) (args : Array Value) (s : State) (mc ms zf : Nat) (w0 : Unit ⊕ Nat) (σ0 : Sh) (X0 : Mx) : State → Prop := vx_MQ below (QcV g zf w0 σ0 X0) (XCq g w0 σ0 X0) args s mc ms (gA g)
abbrev QXR (g : Gp) (below : List Frame) (args : Array Value) (s : State) (mc ms zf : Nat) (w0 : Nat ⊕ Nat) (σ0 : Sh) (X0 : Mx) : State → Prop := vx_MQ below (QcR g zf w0 σ0 X0) (XCq g w0 σ0 X0) args s mc ms (gA g)
def xOK (own : String) (ik ic : Nat) (cls : String) : Prop := Bundle.fit cls = true ∧ Cond.classLink own ik cls ∈ TB ∧ Cond.initialized cls ∈ TB ∧ (∀ w ∈ (vx_atS own ic cls xNames).filter goodWord, w ∈ TB) ∧ (∀ w ∈ (vx_atS own ic cls xNames).filter (fun w => !goodWord w), w ∈ Cond.castable cls cls :: nwD.map Cond.declares) ∧ (cls, cls) ∈ nwC ∧ ∀ w ∈ Cond.classLink own ik cls :: Cond.initialized cls :: vx_atS own ic cls xNames, vx_ot w = true
theorem xn_fit : ∀ n ∈ xNames, Bundle.fit n = true := by decide +kernel
section XROWS
variable {p : Program} {l : Launch} {e : Env} {R : Room} {s : State} {m : MethodId} {args : Array Value} {below : List Frame} {meth : Method} {c : Code} {H : Heap} {locs : List Loc} {cells slots : Nat} {Q : State → Prop}
variable {g : Gp} {own : String} {cc : ByteArray} {nL : Nat} {rt : Option FieldType} {σ : Sh} {X : Mx} {pc z : Nat} {ls : Array Slot} {rest st0 As : List Value} {ρ : Type} {σ0 : Sh} {X0 : Mx} {cu du : Nat}
variable {y : MethodName} {cy : ByteArray} {nLy fr lo idx n b ci : Nat} {rty : Option FieldType} {q : vw_C}
theorem rq_of (hW : Wd g σ X s H locs) {t : State} (hk : ∀ q : Nat, q < H.size → t.heap[q]? = H[q]?) : Rq g σ X t := ⟨hW.1.kept (fun k x hx => hk x.1 (hW.1 k x hx).lt), hW.2.1, hW.2.2.2⟩
theorem xf_of (hW : Wd g σ X s H locs) {t : State} (hz : H.size ≤ t.heap.size) (hk : ∀ q : Nat, q < H.size → t.heap[q]? = H[q]?) : va_F (gA g) s t :=
  ⟨Nat.le_trans hW.2.2.1.1 hz, fun q h1 h2 => (hk q (Nat.lt_of_lt_of_le h1 hW.2.2.1.1)).trans (hW.2.2.1.2.1 q h1 h2)⟩
theorem x_hat (C : Cx g own cc nL rt p s m args meth c) {ik ic : Nat} {cls : String} (hx : xOK own ik ic cls) : ∀ w ∈ vx_atS own ic cls xNames, w.before args s = true := by
  obtain ⟨x1, x2, x3, x4, x5, x6, x7⟩ := hx
  refine vx_hat (fun w h => C.1.2.2.2.2 w (x4 w h)) x5 (vx_c ?_ (fun w hw => ?_))
  · exact va_Nw.use rfl (C.2.2.2.2.2.2.2.2.2.2.2.2.2.1 _ x6)
  · obtain ⟨q, hq, rfl⟩ := List.mem_map.mp hw
    exact va_Nw.use rfl (C.2.2.2.2.2.2.2.2.2.2.2.2.2.2.1 _ hq)
theorem r_throwS {w0 : ρ ⊕ Nat} {Qc : Array Value → State → Outcome → State → Prop} {mc ms ik ic is k : Nat} {text : String} (hst : l.stackTraces = false) (C : Cx g RX9 cc nL rt p s m args meth c) (hno : ∀ x ∈ c.exceptionTable.toList, False) (hW : Wd g σ X s H locs) (hm : cells + cu = mc ∧ slots + du = ms) (h : some (Sum.inr k, σ, X, 1, 6) = some (w0, σ0, X0, cu, du)) (hx : xOK RX9 ik ic (xcN k)) (his : (is, text) ∈ xTx) (hR : 5 < fr ∧ (rest.map fun v => v.category).sum + 82 ≤ lo) (hls : ls.size = nL)
    (d0 : decode cc pc = .ok (.new ik, 3)) (d3 : decode cc (pc + 3) = .ok (.dup, 1)) (d4 : decode cc (pc + 4) = .ok (.ldc is, 2)) (d6 : decode cc (pc + 6) = .ok (.invokespecial ic, 3)) (d9 : decode cc (pc + 9) = .ok (.athrow, 1)) :
    W p l e (rmH fr lo mc ms) s m args below meth c H locs cells slots (vx_MQ below Qc (XCq g w0 σ0 X0) args s mc ms (gA g)) (F0 m pc ls rest) := by
  simp only [Option.some.injEq, Prod.mk.injEq] at h
  obtain ⟨rfl, rfl, rfl, rfl, rfl⟩ := h
  have hat := x_hat C hx
  obtain ⟨x1, x2, x3, x4, x5, x6, x7⟩ := hx
  obtain ⟨⟨hx, hb, hml, hown, hts⟩, hK, hg, hr, hlocks, hsc⟩ := C
  obtain ⟨sa, hsa⟩ := hsc.2.2.2.2.2.2.1 _ his
  exact vx_throwS hx hb hst hown x1 xn_fit (hts _ x2) (hts _ x3) hsa hat x7 hsc.2.2.2.1 hsc.2.2.2.2.1 hW.2.2.1 (hls.trans hml.symm) d0 d3 d4 d6 d9 (fun x hx => (hno x hx).elim) hR.1 hR.2 (by show cells + 1 ≤ mc; omega) (by show slots + 6 ≤ ms; omega) hlocks
    (fun t ha h1 h2 => ⟨k, rfl, ⟨rfl, rq_of hW h2⟩, xf_of hW h1 h2⟩) hW.2.2.1.2.2 (by omega) (by omega)
theorem r_throwSW {w0 : ρ ⊕ Nat} {Qc : Array Value → State → Outcome → State → Prop} {mc ms ik ic is k : Nat} {text : String} (hst : l.stackTraces = false) (C : Cx g RX9 cc nL rt p s m args meth c) (hno : ∀ x ∈ c.exceptionTable.toList, False) (hW : Wd g σ X s H locs) (hm : cells + cu = mc ∧ slots + du = ms) (h : some (Sum.inr k, σ, X, 1, 6) = some (w0, σ0, X0, cu, du)) (hx : xOK RX9 ik ic (xcN k)) (his : (is, text) ∈ xTx) (hR : 5 < fr ∧ (rest.map fun v => v.category).sum + 82 ≤ lo) (hls : ls.size = nL)
    (d0 : decode cc pc = .ok (.new ik, 3)) (d3 : decode cc (pc + 3) = .ok (.dup, 1)) (d4 : decode cc (pc + 4) = .ok (.ldc_w is, 3)) (d7 : decode cc (pc + 7) = .ok (.invokespecial ic, 3)) (d10 : decode cc (pc + 10) = .ok (.athrow, 1)) :
    W p l e (rmH fr lo mc ms) s m args below meth c H locs cells slots (vx_MQ below Qc (XCq g w0 σ0 X0) args s mc ms (gA g)) (F0 m pc ls rest) := by
  simp only [Option.some.injEq, Prod.mk.injEq] at h
  obtain ⟨rfl, rfl, rfl, rfl, rfl⟩ := h
  have hat := x_hat C hx
  obtain ⟨x1, x2, x3, x4, x5, x6, x7⟩ := hx
  obtain ⟨⟨hx, hb, hml, hown, hts⟩, hK, hg, hr, hlocks, hsc⟩ := C
  obtain ⟨sa, hsa⟩ := hsc.2.2.2.2.2.2.1 _ his
  exact vx_throwSW hx hb hst hown x1 xn_fit (hts _ x2) (hts _ x3) hsa hat x7 hsc.2.2.2.1 hsc.2.2.2.2.1 hW.2.2.1 (hls.trans hml.symm) d0 d3 d4 d7 d10 (fun x hx => (hno x hx).elim) hR.1 hR.2 (by show cells + 1 ≤ mc; omega) (by show slots + 6 ≤ ms; omega) hlocks
    (fun t ha h1 h2 => ⟨k, rfl, ⟨rfl, rq_of hW h2⟩, xf_of hW h1 h2⟩) hW.2.2.1.2.2 (by omega) (by omega)
theorem r_throwSN {w0 : ρ ⊕ Nat} {Qc : Array Value → State → Outcome → State → Prop} {mc ms ik ic is k : Nat} {text : String} (hst : l.stackTraces = false) (C : Cx g RX9 cc nL rt p s m args meth c) (hno : ∀ x ∈ c.exceptionTable.toList, False) (hW : Wd g σ X s H locs) (hm : cells + cu = mc ∧ slots + du = ms) (h : some (Sum.inr k, σ, X, 1, 6) = some (w0, σ0, X0, cu, du)) (hk : ik = 153 ∧ ic = 157 ∧ k = 0) (his : (is, text) ∈ xTx) (hR : 5 < fr ∧ (rest.map fun v => v.category).sum + 82 ≤ lo) (hls : ls.size = nL)
    (d0 : decode cc pc = .ok (.new ik, 3)) (d3 : decode cc (pc + 3) = .ok (.dup, 1)) (d4 : decode cc (pc + 4) = .ok (.ldc is, 2)) (d6 : decode cc (pc + 6) = .ok (.invokespecial ic, 3)) (d9 : decode cc (pc + 9) = .ok (.athrow, 1)) :
    W p l e (rmH fr lo mc ms) s m args below meth c H locs cells slots (vx_MQ below Qc (XCq g w0 σ0 X0) args s mc ms (gA g)) (F0 m pc ls rest) := by
  simp only [Option.some.injEq, Prod.mk.injEq] at h
  obtain ⟨rfl, rfl, rfl, rfl, rfl⟩ := h
  obtain ⟨rfl, rfl, rfl⟩ := hk
  have hat := vn_hat C
  obtain ⟨⟨hx, hb, hml, hown, hts⟩, hK, hg, hr, hlocks, hsc⟩ := C
  obtain ⟨sa, hsa⟩ := hsc.2.2.2.2.2.2.1 _ his
  exact vn_throwS hx hb hst hown (hts _ vn_k1) (hts _ vn_k2) hsa hat vn_k5 hsc.2.2.2.1 hsc.2.2.2.2.1 hW.2.2.1 (hls.trans hml.symm) d0 d3 d4 d6 d9 (fun x hx => (hno x hx).elim) hR.1 hR.2 (by show cells + 1 ≤ mc; omega) (by show slots + 6 ≤ ms; omega) hlocks
    (fun t ha h1 h2 => ⟨0, rfl, ⟨rfl, rq_of hW h2⟩, xf_of hW h1 h2⟩) hW.2.2.1.2.2 (by omega) (by omega)
theorem r_throwSWN {w0 : ρ ⊕ Nat} {Qc : Array Value → State → Outcome → State → Prop} {mc ms ik ic is k : Nat} {text : String} (hst : l.stackTraces = false) (C : Cx g RX9 cc nL rt p s m args meth c) (hno : ∀ x ∈ c.exceptionTable.toList, False) (hW : Wd g σ X s H locs) (hm : cells + cu = mc ∧ slots + du = ms) (h : some (Sum.inr k, σ, X, 1, 6) = some (w0, σ0, X0, cu, du)) (hk : ik = 153 ∧ ic = 157 ∧ k = 0) (his : (is, text) ∈ xTx) (hR : 5 < fr ∧ (rest.map fun v => v.category).sum + 82 ≤ lo) (hls : ls.size = nL)
    (d0 : decode cc pc = .ok (.new ik, 3)) (d3 : decode cc (pc + 3) = .ok (.dup, 1)) (d4 : decode cc (pc + 4) = .ok (.ldc_w is, 3)) (d7 : decode cc (pc + 7) = .ok (.invokespecial ic, 3)) (d10 : decode cc (pc + 10) = .ok (.athrow, 1)) :
    W p l e (rmH fr lo mc ms) s m args below meth c H locs cells slots (vx_MQ below Qc (XCq g w0 σ0 X0) args s mc ms (gA g)) (F0 m pc ls rest) := by
  simp only [Option.some.injEq, Prod.mk.injEq] at h
  obtain ⟨rfl, rfl, rfl, rfl, rfl⟩ := h
  obtain ⟨rfl, rfl, rfl⟩ := hk
  have hat := vn_hat C
  obtain ⟨⟨hx, hb, hml, hown, hts⟩, hK, hg, hr, hlocks, hsc⟩ := C
  obtain ⟨sa, hsa⟩ := hsc.2.2.2.2.2.2.1 _ his
  exact vn_throwSW hx hb hst hown (hts _ vn_k1) (hts _ vn_k2) hsa hat vn_k5 hsc.2.2.2.1 hsc.2.2.2.2.1 hW.2.2.1 (hls.trans hml.symm) d0 d3 d4 d7 d10 (fun x hx => (hno x hx).elim) hR.1 hR.2 (by show cells + 1 ≤ mc; omega) (by show slots + 6 ≤ ms; omega) hlocks
    (fun t ha h1 h2 => ⟨0, rfl, ⟨rfl, rq_of hW h2⟩, xf_of hW h1 h2⟩) hW.2.2.1.2.2 (by omega) (by omega)
/-! returns -/
theorem r_xiret {ty : FieldType} {mc ms zf : Nat} {v : Int32} {w0 : Int32 ⊕ Nat} (C : Cx g own cc nL (some ty) p s m args meth c) (hzf : s.heap.size + mc = zf) (hW : Wd g σ X s H locs) (hz : z ≤ H.size) (hc : s.heap.size + cells = z) (hm : cells + cu = mc ∧ slots + du = ms) (h : some (Sum.inl v, σ, X, 0, 0) = some (w0, σ0, X0, cu, du)) (hn : narrow ty (.int v) = .int v) (hdg : decode cc pc = .ok (.ireturn, 1)) : W p l e (rmH fr lo mc ms) s m args below meth c H locs cells slots (QXI g below args s mc ms zf w0 σ0 X0) (F0 m pc ls [.int v]) := by
  simp only [Option.some.injEq, Prod.mk.injEq] at h
  obtain ⟨rfl, rfl, rfl, rfl, rfl⟩ := h
  obtain ⟨rfl, rfl⟩ := hm
  refine wsz hz hc (fun hzz => ?_)
  obtain ⟨⟨hx, hb, hml, hown, hts⟩, hK, hg, hr, hlocks, hsc⟩ := C
  exact vx_ret (W.zret hx hb hr hn (fun t ht hw => ⟨⟨v, (σ, X), rfl, ⟨rfl, rfl⟩, hq_of (ms := slots) hzf hsc hK hg hW hzz hc t ht hw⟩, hW.2.2.1.F ht⟩) hW.2.2.1.2.2 hdg hlocks)
theorem r_xvret {mc ms zf : Nat} {w0 : Unit ⊕ Nat} (C : Cx g own cc nL none p s m args meth c) (hzf : s.heap.size + mc = zf) (hW : Wd g σ X s H locs) (hz : z ≤ H.size) (hc : s.heap.size + cells = z) (hm : cells + cu = mc ∧ slots + du = ms) (h : some (Sum.inl (), σ, X, 0, 0) = some (w0, σ0, X0, cu, du)) (hdg : decode cc pc = .ok (.return_, 1)) : W p l e (rmH fr lo mc ms) s m args below meth c H locs cells slots (QXV g below args s mc ms zf w0 σ0 X0) (F0 m pc ls []) := by
  simp only [Option.some.injEq, Prod.mk.injEq] at h
  obtain ⟨rfl, rfl, rfl, rfl, rfl⟩ := h
  obtain ⟨rfl, rfl⟩ := hm
  refine wsz hz hc (fun hzz => ?_)
  obtain ⟨⟨hx, hb, hml, hown, hts⟩, hK, hg, hr, hlocks, hsc⟩ := C
  exact vx_ret (W.vret hx hb hr (fun t ht hw => ⟨⟨(σ, X), rfl, ⟨rfl, rfl⟩, hq_of (ms := slots) hzf hsc hK hg hW hzz hc t ht hw⟩, hW.2.2.1.F ht⟩) hW.2.2.1.2.2 hdg hlocks)
theorem r_xaret {nm : String} {mc ms zf : Nat} {v : Nat} {w0 : Nat ⊕ Nat} (C : Cx g own cc nL (some (.object nm)) p s m args meth c) (hzf : s.heap.size + mc = zf) (hW : Wd g σ X s H locs) (hz : z ≤ H.size) (hc : s.heap.size + cells = z) (hm : cells + cu = mc ∧ slots + du = ms) (h : some (Sum.inl v, σ, X, 0, 0) = some (w0, σ0, X0, cu, du)) (hdg : decode cc pc = .ok (.areturn, 1)) : W p l e (rmH fr lo mc ms) s m args below meth c H locs cells slots (QXR g below args s mc ms zf w0 σ0 X0) (F0 m pc ls [.ref v]) := by
  simp only [Option.some.injEq, Prod.mk.injEq] at h
  obtain ⟨rfl, rfl, rfl, rfl, rfl⟩ := h
  obtain ⟨rfl, rfl⟩ := hm
  refine wsz hz hc (fun hzz => ?_)
  obtain ⟨⟨hx, hb, hml, hown, hts⟩, hK, hg, hr, hlocks, hsc⟩ := C
  exact vx_ret (W.aret (v := .ref v) hx hb hr (Or.inl ⟨_, rfl⟩) (Or.inr ⟨_, rfl⟩) (fun t ht hw => ⟨⟨(σ, X), v, rfl, rfl, rfl, hq_of (ms := slots) hzf hsc hK hg hW hzz hc t ht hw⟩, hW.2.2.1.F ht⟩) hW.2.2.1.2.2 hdg hlocks)
/-! calls -/
theorem run_XV {mc ms : Nat} {XC : String → State → State → Prop} (C : Cx g own cc nL rt p s m args meth c) (hW : Wd g σ X s H locs) (hzz : H.size = z) {Qc : Array Value → State → Outcome → State → Prop} (hM : vx_Met l y (Cond.code y cy nLy rty :: TB) (rmH fr lo mc ms) (va_Pc (.ref b :: As) (RpH g σ X z)) Qc XC mc ms (gA g)) (hm : mOK y cy nLy rty n) (hv : vOK own idx y) (hb : shK σ b = ci) (hc : vwCl[ci]? = some q) (hq : q.1 = y.cls) (h9 : ci < 9) (hR : fr + 1 ≤ R.frames ∧ 8 + (nLy + 11) + lo ≤ R.locals) (hcs : cells + mc ≤ R.cells ∧ slots + ms ≤ R.slots) (hn : As.length = n) (hst : st0 = As.reverse ++ .ref b :: rest) (hsz : (rest.map fun v => v.category).sum ≤ 8) (hls : ls.size = nL) (hdg : decode cc pc = .ok (.invokevirtual idx, 3)) :
    vx_Run p l e R s m args below meth c H locs cells slots mc ms (F0 m pc ls st0) rest (Qc (Value.ref b :: As).toArray) XC (gA g) := by
  have hts := C.1.2.2.2.2
  obtain ⟨h1, h2, h3, h4⟩ := hm
  obtain ⟨v1, v2, v3⟩ := hv
  obtain ⟨kq, hkq⟩ := pool_get (g := g) (X := X) hW.2.2.2 (show shK σ b < 13 by omega)
  rw [cE_obj hb h9] at hkq
  have hrv := va_recv C.2.1 hW.1 hc hkq
  rw [hq] at hrv
  exact vx_runV (C := y.cls) (As := As) C.1 hM ⟨callB_of n hts (tb_code h1) rfl rfl rfl (hts _ h4) (hts _ v1) h3 hR, hts _ v2, hts _ v3⟩ ⟨rph_blind, hrv, rph_pre C hW hzz⟩ rfl hn hls hst (lv_room hsz) hdg hcs
theorem run_XS {mc ms : Nat} {XC : String → State → State → Prop} (C : Cx g own cc nL rt p s m args meth c) (hW : Wd g σ X s H locs) (hzz : H.size = z) {Qc : Array Value → State → Outcome → State → Prop} (hM : vx_Met l y (Cond.code y cy nLy rty :: TB) (rmH fr lo mc ms) (va_Pc As (RpH g σ X z)) Qc XC mc ms (gA g)) (hm : mOK y cy nLy rty n) (hv : sOK own idx y) (hR : fr + 1 ≤ R.frames ∧ 8 + (nLy + 11) + lo ≤ R.locals) (hcs : cells + mc ≤ R.cells ∧ slots + ms ≤ R.slots) (hn : As.length = n) (hst : st0 = As.reverse ++ rest) (hsz : (rest.map fun v => v.category).sum ≤ 8) (hls : ls.size = nL) (hdg : decode cc pc = .ok (.invokestatic idx, 3)) :
    vx_Run p l e R s m args below meth c H locs cells slots mc ms (F0 m pc ls st0) rest (Qc As.toArray) XC (gA g) := by
  have hts := C.1.2.2.2.2
  obtain ⟨h1, h2, h3, h4⟩ := hm
  obtain ⟨v1, v2⟩ := hv
  exact vx_runS (As := As) C.1 hM ⟨callB_of n hts (tb_code h1) rfl rfl rfl (hts _ h4) (hts _ v1) h3 hR, hts _ v2⟩ ⟨rph_blind, rph_pre C hW hzz⟩ rfl hn hls hst (lv_room hsz) hdg hcs
theorem x_out {w0 : ρ ⊕ Nat} {Qc : Array Value → State → Outcome → State → Prop} {mc ms x : Nat} {H1 : Heap} {locs1 : List Loc} {E : String} {ce : Cell} {q9 : Addr} {c1 d1 : Nat} (C : Cx g own cc nL rt p s m args meth c) (hno : ∀ x ∈ c.exceptionTable.toList, False) (hm : cells + c1 ≤ mc ∧ slots + d1 ≤ ms) (hw : w0 = .inr x) (hE : E = xcN x) (hq : ∀ t : State, t.heap = H1 → Rq g σ0 X0 t) (hS : va_S (gA g) s.heap H1 locs1) (hcell : H1[q9]? = some ce) (hv : ce.vm = .none) (hcl : s.vm.findClass E = some ce.cls) :
    vx_W p l e (rmH fr lo mc ms) s m args below meth c H1 locs1 (cells + c1) (slots + d1) (vx_MQ below Qc (XCq g w0 σ0 X0) args s mc ms (gA g)) (F0 m pc ls rest) q9 := by
  obtain ⟨-, -, -, -, hlocks, -⟩ := C
  exact vx_out (fun x hx => (hno x hx).elim) hlocks hcell hv hcl (fun t ht _ => ⟨x, hw, ⟨hE, hq t ht⟩, hS.F ht⟩) hS.2.2 hm.1 hm.2
theorem r_xcI {w0 : ρ ⊕ Nat} {Qc : Array Value → State → Outcome → State → Prop} {mc ms : Nat} {a : Array Value} {o : Hr (Int32 ⊕ Nat)} {k : Int32 → Sh → Mx → Nat → Nat → Option (Hr (ρ ⊕ Nat))} (C : Cx g own cc nL rt p s m args meth c) (hno : ∀ x ∈ c.exceptionTable.toList, False) (hW : Wd g σ X s H locs) (hc : s.heap.size + cells = z) (hm : cells + cu = mc ∧ slots + du = ms) (h : bndX (some o) k = some (w0, σ0, X0, cu, du)) (hr : (cells + o.2.2.2.1 ≤ mc ∧ slots + o.2.2.2.2 ≤ ms) → vx_Run p l e (rmH fr lo mc ms) s m args below meth c H locs cells slots o.2.2.2.1 o.2.2.2.2 (F0 m pc ls st0) rest (QcI g (z + o.2.2.2.1) o.1 o.2.1 o.2.2.1 a) (XCq g o.1 o.2.1 o.2.2.1) (gA g))
    (kk : ∀ v σ1 X1 c1 d1 H1 locs1 cells slots cu du, o = (.inl v, σ1, X1, c1, d1) → k v σ1 X1 c1 d1 = some (w0, σ0, X0, cu, du) → Wd g σ1 X1 s H1 locs1 → z + c1 ≤ H1.size → s.heap.size + cells = z + c1 → (cells + cu = mc ∧ slots + du = ms) → W p l e (rmH fr lo mc ms) s m args below meth c H1 locs1 cells slots (vx_MQ below Qc (XCq g w0 σ0 X0) args s mc ms (gA g)) (F0 m (pc + 3) ls (.int v :: rest))) : W p l e (rmH fr lo mc ms) s m args below meth c H locs cells slots (vx_MQ below Qc (XCq g w0 σ0 X0) args s mc ms (gA g)) (F0 m pc ls st0) := by
  obtain ⟨w, σ1, X1, c1, d1⟩ := o
  cases w with
  | inl v =>
    obtain ⟨c', d', hh, rfl, rfl⟩ := adc_inv (show adc c1 d1 (k v σ1 X1 c1 d1) = some (w0, σ0, X0, cu, du) from h)
    refine vx_calli (hr ⟨by show cells + c1 ≤ mc; omega, by show slots + d1 ≤ ms; omega⟩) hW.2.2.1 (fun q _ h => h) (fun q h => h) (fun q _ h => h) ?_ ?_
    · intro E ce q9 u t H1 locs1 ht hvm hp
      cases hp
    · intro v' u t H1 locs1 ht hvm hw hB hz hk hS
      obtain ⟨hv, rfl⟩ := hw
      cases hv
      obtain ⟨⟨hP1, hK1, hD1, hz1, hO, -⟩, hsz⟩ := hB
      rw [ht] at hP1 hsz
      exact kk _ _ _ _ _ _ _ _ _ _ _ rfl hh ⟨hP1, hD1, hS, hO⟩ (by rw [hsz]; exact Nat.le_refl _) (by show _ + (cells + c1) = _; omega) ⟨by show cells + c1 + _ = _; omega, by show slots + d1 + _ = _; omega⟩
  | inr x =>
    have h' : some (Sum.inr x, σ1, X1, c1, d1) = some (w0, σ0, X0, cu, du) := h
    simp only [Option.some.injEq, Prod.mk.injEq] at h'
    obtain ⟨rfl, rfl, rfl, rfl, rfl⟩ := h'
    refine vx_calli (hr ⟨by show cells + c1 ≤ mc; omega, by show slots + d1 ≤ ms; omega⟩) hW.2.2.1 (fun q _ h => h) (fun q h => h) (fun q _ h => h) ?_ ?_
    · intro E ce q9 u t H1 locs1 ht hvm hp hB hz hk hS he hv hcl
      have hxu : x = u := Sum.inr.inj hp
      subst hxu
      refine x_out C hno ⟨by show cells + c1 ≤ mc; omega, by show slots + d1 ≤ ms; omega⟩ rfl hB.1 (fun t2 ht2 => ?_) hS he hv hcl
      have h2 := hB.2
      unfold Rq at h2 ⊢
      rw [ht] at h2
      rw [ht2]
      exact h2
    · intro v' u t H1 locs1 ht hvm hw
      cases hw.1
theorem r_xcR {w0 : ρ ⊕ Nat} {Qc : Array Value → State → Outcome → State → Prop} {mc ms : Nat} {a : Array Value} {o : Hr (Nat ⊕ Nat)} {k : Nat → Sh → Mx → Nat → Nat → Option (Hr (ρ ⊕ Nat))} (C : Cx g own cc nL rt p s m args meth c) (hno : ∀ x ∈ c.exceptionTable.toList, False) (hW : Wd g σ X s H locs) (hc : s.heap.size + cells = z) (hm : cells + cu = mc ∧ slots + du = ms) (h : bndX (some o) k = some (w0, σ0, X0, cu, du)) (hr : (cells + o.2.2.2.1 ≤ mc ∧ slots + o.2.2.2.2 ≤ ms) → vx_Run p l e (rmH fr lo mc ms) s m args below meth c H locs cells slots o.2.2.2.1 o.2.2.2.2 (F0 m pc ls st0) rest (QcR g (z + o.2.2.2.1) o.1 o.2.1 o.2.2.1 a) (XCq g o.1 o.2.1 o.2.2.1) (gA g))
    (kk : ∀ v σ1 X1 c1 d1 H1 locs1 cells slots cu du, o = (.inl v, σ1, X1, c1, d1) → k v σ1 X1 c1 d1 = some (w0, σ0, X0, cu, du) → Wd g σ1 X1 s H1 locs1 → z + c1 ≤ H1.size → s.heap.size + cells = z + c1 → (cells + cu = mc ∧ slots + du = ms) → W p l e (rmH fr lo mc ms) s m args below meth c H1 locs1 cells slots (vx_MQ below Qc (XCq g w0 σ0 X0) args s mc ms (gA g)) (F0 m (pc + 3) ls (.ref v :: rest))) : W p l e (rmH fr lo mc ms) s m args below meth c H locs cells slots (vx_MQ below Qc (XCq g w0 σ0 X0) args s mc ms (gA g)) (F0 m pc ls st0) := by
  obtain ⟨w, σ1, X1, c1, d1⟩ := o
  intro T hT XX
  cases w with
  | inl v =>
    obtain ⟨c', d', hh, rfl, rfl⟩ := adc_inv (show adc c1 d1 (k v σ1 X1 c1 d1) = some (w0, σ0, X0, cu, du) from h)
    rcases hr ⟨by show cells + c1 ≤ mc; omega, by show slots + d1 ≤ ms; omega⟩ T hT XX with ⟨v9, st₀, t, T', L, h0, X', hL, e1, e2, ⟨⟨u, a9, hv, hp, hv2, ⟨hP1, hK1, hD1, hz1, hO, -⟩, hsz⟩, hF⟩, st⟩ | ⟨q9, st₀, t, T', L, E, ce, h0, X', hL, e1, e2, ⟨u, hp, hb9, hF⟩, hce, hcv, hcl, st⟩
    · cases hv
      cases hp
      cases hv2
      obtain ⟨k1, k2, k3⟩ := vx_keep h0 e1 hW.2.2.1 (fun q _ h => h) (fun q h => h) hL hF
      rw [← e1] at hP1 hsz
      obtain ⟨t2, a1, b1⟩ := kk _ _ _ _ _ _ _ _ _ _ _ rfl hh ⟨hP1, hD1, k3, hO⟩ (by rw [hsz]; exact Nat.le_refl _) (by show _ + (cells + c1) = _; omega) ⟨by show cells + c1 + _ = _; omega, by show slots + d1 + _ = _; omega⟩ T' rfl X'
      exact ⟨t2, st t2 a1, b1⟩
    · cases hp
  | inr x =>
    have h' : some (Sum.inr x, σ1, X1, c1, d1) = some (w0, σ0, X0, cu, du) := h
    simp only [Option.some.injEq, Prod.mk.injEq] at h'
    obtain ⟨rfl, rfl, rfl, rfl, rfl⟩ := h'
    rcases hr ⟨by show cells + c1 ≤ mc; omega, by show slots + d1 ≤ ms; omega⟩ T hT XX with ⟨v9, st₀, t, T', L, h0, X', hL, e1, e2, ⟨⟨u, a9, hv, hp, hv2, hB⟩, hF⟩, st⟩ | ⟨q9, st₀, t, T', L, E, ce, h0, X', hL, e1, e2, ⟨u, hp, hb9, hF⟩, hce, hcv, hcl, st⟩
    · cases hv2
    · obtain ⟨k1, k2, k3⟩ := vx_keep h0 e1 hW.2.2.1 (fun q _ h => h) (fun q h => h) hL hF
      have hxu : x = u := Sum.inr.inj hp
      subst hxu
      obtain ⟨t2, a1, b1⟩ := x_out (w0 := (Sum.inr x : ρ ⊕ Nat)) (σ0 := σ1) (X0 := X1) (fr := fr) (lo := lo) (Qc := Qc) (pc := pc) (ls := ls) (rest := rest) (l := l) (e := e) (below := below) C hno ⟨show cells + c1 ≤ mc by omega, show slots + d1 ≤ ms by omega⟩ rfl hb9.1 (H1 := T'.heap) (fun t2 ht2 => by
        have h2 := hb9.2
        unfold Rq at h2 ⊢
        rw [← e1] at h2
        rw [ht2]
        exact h2) k3 (by rw [e1]; exact hce) hcv hcl T' rfl X'
      exact ⟨t2, st.trans a1, b1⟩
theorem r_xcV {w0 : ρ ⊕ Nat} {Qc : Array Value → State → Outcome → State → Prop} {mc ms : Nat} {a : Array Value} {o : Hr (Unit ⊕ Nat)} {k : Unit → Sh → Mx → Nat → Nat → Option (Hr (ρ ⊕ Nat))} (C : Cx g own cc nL rt p s m args meth c) (hno : ∀ x ∈ c.exceptionTable.toList, False) (hW : Wd g σ X s H locs) (hc : s.heap.size + cells = z) (hm : cells + cu = mc ∧ slots + du = ms) (h : bndX (some o) k = some (w0, σ0, X0, cu, du)) (hr : (cells + o.2.2.2.1 ≤ mc ∧ slots + o.2.2.2.2 ≤ ms) → vx_Run p l e (rmH fr lo mc ms) s m args below meth c H locs cells slots o.2.2.2.1 o.2.2.2.2 (F0 m pc ls st0) rest (QcV g (z + o.2.2.2.1) o.1 o.2.1 o.2.2.1 a) (XCq g o.1 o.2.1 o.2.2.1) (gA g))
    (kk : ∀ v σ1 X1 c1 d1 H1 locs1 cells slots cu du, o = (.inl v, σ1, X1, c1, d1) → k v σ1 X1 c1 d1 = some (w0, σ0, X0, cu, du) → Wd g σ1 X1 s H1 locs1 → z + c1 ≤ H1.size → s.heap.size + cells = z + c1 → (cells + cu = mc ∧ slots + du = ms) → W p l e (rmH fr lo mc ms) s m args below meth c H1 locs1 cells slots (vx_MQ below Qc (XCq g w0 σ0 X0) args s mc ms (gA g)) (F0 m (pc + 3) ls rest)) : W p l e (rmH fr lo mc ms) s m args below meth c H locs cells slots (vx_MQ below Qc (XCq g w0 σ0 X0) args s mc ms (gA g)) (F0 m pc ls st0) := by
  obtain ⟨w, σ1, X1, c1, d1⟩ := o
  cases w with
  | inl v =>
    obtain ⟨c', d', hh, rfl, rfl⟩ := adc_inv (show adc c1 d1 (k v σ1 X1 c1 d1) = some (w0, σ0, X0, cu, du) from h)
    refine vx_callv (hr ⟨by show cells + c1 ≤ mc; omega, by show slots + d1 ≤ ms; omega⟩) hW.2.2.1 (fun q _ h => h) (fun q h => h) (fun q _ h => h) ?_ ?_
    · intro E ce q9 u t H1 locs1 ht hvm hp
      cases hp
    · intro u t H1 locs1 ht hvm hw hB hz hk hS
      obtain ⟨hv, rfl⟩ := hw
      cases hv
      obtain ⟨⟨hP1, hK1, hD1, hz1, hO, -⟩, hsz⟩ := hB
      rw [ht] at hP1 hsz
      exact kk _ _ _ _ _ _ _ _ _ _ _ rfl hh ⟨hP1, hD1, hS, hO⟩ (by rw [hsz]; exact Nat.le_refl _) (by show _ + (cells + c1) = _; omega) ⟨by show cells + c1 + _ = _; omega, by show slots + d1 + _ = _; omega⟩
  | inr x =>
    have h' : some (Sum.inr x, σ1, X1, c1, d1) = some (w0, σ0, X0, cu, du) := h
    simp only [Option.some.injEq, Prod.mk.injEq] at h'
    obtain ⟨rfl, rfl, rfl, rfl, rfl⟩ := h'
    refine vx_callv (hr ⟨by show cells + c1 ≤ mc; omega, by show slots + d1 ≤ ms; omega⟩) hW.2.2.1 (fun q _ h => h) (fun q h => h) (fun q _ h => h) ?_ ?_
    · intro E ce q9 u t H1 locs1 ht hvm hp hB hz hk hS he hv hcl
      have hxu : x = u := Sum.inr.inj hp
      subst hxu
      refine x_out C hno ⟨by show cells + c1 ≤ mc; omega, by show slots + d1 ≤ ms; omega⟩ rfl hB.1 (fun t2 ht2 => ?_) hS he hv hcl
      have h2 := hB.2
      unfold Rq at h2 ⊢
      rw [ht] at h2
      rw [ht2]
      exact h2
    · intro u t H1 locs1 ht hvm hw
      cases hw.1
theorem c_XV_I {w0 : ρ ⊕ Nat} {Qc : Array Value → State → Outcome → State → Prop} {mc ms fr1 lo1 : Nat} {o : Hr (Int32 ⊕ Nat)} {k : Int32 → Sh → Mx → Nat → Nat → Option (Hr (ρ ⊕ Nat))} (C : Cx g own cc nL rt p s m args meth c) (hno : ∀ x ∈ c.exceptionTable.toList, False) (hW : Wd g σ X s H locs) (hz : z ≤ H.size) (hc : s.heap.size + cells = z) (hm : cells + cu = mc ∧ slots + du = ms) (h : bndX (some o) k = some (w0, σ0, X0, cu, du)) (hM : HxI g l y cy nLy rty fr1 lo1 (.ref b :: As) σ X z o) (hmk : mOK y cy nLy rty n) (hv : vOK own idx y) (hb : shK σ b = ci) (hvc : vwCl[ci]? = some q) (hq : q.1 = y.cls) (h9 : ci < 9) (hR : fr1 + 1 ≤ fr ∧ 8 + (nLy + 11) + lo1 ≤ lo) (hn : As.length = n) (hst : st0 = As.reverse ++ .ref b :: rest) (hsz : (rest.map fun v => v.category).sum ≤ 8) (hls : ls.size = nL) (hdg : decode cc pc = .ok (.invokevirtual idx, 3))
    (kk : ∀ v σ1 X1 c1 d1 H1 locs1 cells slots cu du, o = (.inl v, σ1, X1, c1, d1) → k v σ1 X1 c1 d1 = some (w0, σ0, X0, cu, du) → Wd g σ1 X1 s H1 locs1 → z + c1 ≤ H1.size → s.heap.size + cells = z + c1 → (cells + cu = mc ∧ slots + du = ms) → W p l e (rmH fr lo mc ms) s m args below meth c H1 locs1 cells slots (vx_MQ below Qc (XCq g w0 σ0 X0) args s mc ms (gA g)) (F0 m (pc + 3) ls (.int v :: rest))) : W p l e (rmH fr lo mc ms) s m args below meth c H locs cells slots (vx_MQ below Qc (XCq g w0 σ0 X0) args s mc ms (gA g)) (F0 m pc ls st0) :=
  wsz hz hc (fun hzz => r_xcI C hno hW hc hm h (fun hcs => run_XV (R := rmH fr lo mc ms) (mc := o.2.2.2.1) (ms := o.2.2.2.2) (As := As) (rest := rest) C hW hzz hM hmk hv hb hvc hq h9 hR hcs hn hst hsz hls hdg) kk)
theorem c_XV_R {w0 : ρ ⊕ Nat} {Qc : Array Value → State → Outcome → State → Prop} {mc ms fr1 lo1 : Nat} {o : Hr (Nat ⊕ Nat)} {k : Nat → Sh → Mx → Nat → Nat → Option (Hr (ρ ⊕ Nat))} (C : Cx g own cc nL rt p s m args meth c) (hno : ∀ x ∈ c.exceptionTable.toList, False) (hW : Wd g σ X s H locs) (hz : z ≤ H.size) (hc : s.heap.size + cells = z) (hm : cells + cu = mc ∧ slots + du = ms) (h : bndX (some o) k = some (w0, σ0, X0, cu, du)) (hM : HxR g l y cy nLy rty fr1 lo1 (.ref b :: As) σ X z o) (hmk : mOK y cy nLy rty n) (hv : vOK own idx y) (hb : shK σ b = ci) (hvc : vwCl[ci]? = some q) (hq : q.1 = y.cls) (h9 : ci < 9) (hR : fr1 + 1 ≤ fr ∧ 8 + (nLy + 11) + lo1 ≤ lo) (hn : As.length = n) (hst : st0 = As.reverse ++ .ref b :: rest) (hsz : (rest.map fun v => v.category).sum ≤ 8) (hls : ls.size = nL) (hdg : decode cc pc = .ok (.invokevirtual idx, 3))
    (kk : ∀ v σ1 X1 c1 d1 H1 locs1 cells slots cu du, o = (.inl v, σ1, X1, c1, d1) → k v σ1 X1 c1 d1 = some (w0, σ0, X0, cu, du) → Wd g σ1 X1 s H1 locs1 → z + c1 ≤ H1.size → s.heap.size + cells = z + c1 → (cells + cu = mc ∧ slots + du = ms) → W p l e (rmH fr lo mc ms) s m args below meth c H1 locs1 cells slots (vx_MQ below Qc (XCq g w0 σ0 X0) args s mc ms (gA g)) (F0 m (pc + 3) ls (.ref v :: rest))) : W p l e (rmH fr lo mc ms) s m args below meth c H locs cells slots (vx_MQ below Qc (XCq g w0 σ0 X0) args s mc ms (gA g)) (F0 m pc ls st0) :=
  wsz hz hc (fun hzz => r_xcR C hno hW hc hm h (fun hcs => run_XV (R := rmH fr lo mc ms) (mc := o.2.2.2.1) (ms := o.2.2.2.2) (As := As) (rest := rest) C hW hzz hM hmk hv hb hvc hq h9 hR hcs hn hst hsz hls hdg) kk)
theorem c_XS_V {w0 : ρ ⊕ Nat} {Qc : Array Value → State → Outcome → State → Prop} {mc ms fr1 lo1 : Nat} {o : Hr (Unit ⊕ Nat)} {k : Unit → Sh → Mx → Nat → Nat → Option (Hr (ρ ⊕ Nat))} (C : Cx g own cc nL rt p s m args meth c) (hno : ∀ x ∈ c.exceptionTable.toList, False) (hW : Wd g σ X s H locs) (hz : z ≤ H.size) (hc : s.heap.size + cells = z) (hm : cells + cu = mc ∧ slots + du = ms) (h : bndX (some o) k = some (w0, σ0, X0, cu, du)) (hM : HxV g l y cy nLy rty fr1 lo1 As σ X z o) (hmk : mOK y cy nLy rty n) (hv : sOK own idx y) (hR : fr1 + 1 ≤ fr ∧ 8 + (nLy + 11) + lo1 ≤ lo) (hn : As.length = n) (hst : st0 = As.reverse ++ rest) (hsz : (rest.map fun v => v.category).sum ≤ 8) (hls : ls.size = nL) (hdg : decode cc pc = .ok (.invokestatic idx, 3))
    (kk : ∀ v σ1 X1 c1 d1 H1 locs1 cells slots cu du, o = (.inl v, σ1, X1, c1, d1) → k v σ1 X1 c1 d1 = some (w0, σ0, X0, cu, du) → Wd g σ1 X1 s H1 locs1 → z + c1 ≤ H1.size → s.heap.size + cells = z + c1 → (cells + cu = mc ∧ slots + du = ms) → W p l e (rmH fr lo mc ms) s m args below meth c H1 locs1 cells slots (vx_MQ below Qc (XCq g w0 σ0 X0) args s mc ms (gA g)) (F0 m (pc + 3) ls (rest))) : W p l e (rmH fr lo mc ms) s m args below meth c H locs cells slots (vx_MQ below Qc (XCq g w0 σ0 X0) args s mc ms (gA g)) (F0 m pc ls st0) :=
  wsz hz hc (fun hzz => r_xcV C hno hW hc hm h (fun hcs => run_XS (R := rmH fr lo mc ms) (mc := o.2.2.2.1) (ms := o.2.2.2.2) (As := As) (rest := rest) C hW hzz hM hmk hv hR hcs hn hst hsz hls hdg) kk)
/-- a contract out of a walk -/
theorem met_ofX {mc ms : Nat} {av : List Value} {XC : String → State → State → Prop} {Qc : Array Value → State → Outcome → State → Prop} (hm : mOK y cy nLy rty n) (hpl : plainName y.cls = true) (hlen : (lg_sl av).length ≤ nLy)
    (body : ∀ (p : Program) (e : Env) (s : State) (m : MethodId) (args : Array Value) (below : List Frame) (meth : Method) (c : Code) (ls : Array Slot), Cx g y.cls cy nLy rty p s m args meth c → (∀ x ∈ c.exceptionTable.toList, False) → Wd g σ X s s.heap [] → s.heap.size = z → lv_has ls nLy (lv_args 0 av) →
      W p l e (rmH fr lo mc ms) s m args below meth c s.heap [] 0 0 (vx_MQ below Qc XC args s mc ms (gA g)) (F0 m 0 ls [])) : vx_Met l y (Cond.code y cy nLy rty :: TB) (rmH fr lo mc ms) (va_Pc av (RpH g σ X z)) Qc XC mc ms (gA g) := by
  refine vx_ofW (cc := cy) (maxL := nLy) (ret := rty) hpl rfl ?_
  intro p e s m args below meth c s₁ B hml hno hv
  obtain ⟨rfl, ⟨hP, hK, hD, hg, hO, hsc⟩, hzz⟩ := hv
  have hts := atoms_spec (ws := Cond.code y cy nLy rty :: TB) B.pre
  have hown : s.vm.findClass y.cls = some m.cls := findClass_of_methodNamed B.named
  rw [lg_entry_eq]
  exact body p e s m _ below meth c _ ⟨⟨B.exec, B.bytes, hml, hown, fun w h => hts w (List.mem_cons_of_mem _ h)⟩, hK, hg, B.returns, B.notSynchronized, hsc⟩ hno ⟨hP, hD, va_S.rf, hO⟩ hzz (lv_entry av hlen)
end XROWS
set_option maxRecDepth 100000 in
theorem xk_79_83 : xOK RX9 79 83 (xcN 1) := show xOK RX9 79 83 "java/lang/IllegalArgumentException" from ⟨by decide +kernel, tb (List.mem_of_getElem? (i := 823) (by decide +kernel)) (by decide +kernel), tb (List.mem_of_getElem? (i := 152) (by decide +kernel)) (by decide +kernel), fun w h => tb ((show ∀ w ∈ (vx_atS RX9 83 "java/lang/IllegalArgumentException" xNames).filter goodWord, w ∈ lw_tbl by decide +kernel) w h) (List.mem_filter.mp h).2, by decide +kernel, by decide +kernel, by decide +kernel⟩
