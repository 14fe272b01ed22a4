/-! ===== the law's own methods ===== -/
def stL {ρ : Type} (σ : Sh) (X : Mx) (a : Nat) (i : Int32) (v : Int64) (cont : Mx → Option ρ) : Option ρ := if shK σ a = 12 ∧ ¬ (i < 0 ∨ shN σ a ≤ i.toNatClampNeg) then cont (sJ X a i.toNatClampNeg v) else none
def ldL {ρ : Type} (σ : Sh) (X : Mx) (a : Nat) (i : Int32) (cont : Int64 → Option ρ) : Option ρ := if shK σ a = 12 ∧ ¬ (i < 0 ∨ shN σ a ≤ i.toNatClampNeg) then cont (X.2 a i.toNatClampNeg) else none
def bndC {α ρ : Type} (o : Option (Hr (α ⊕ Nat))) (kn : α → Sh → Mx → Option (Hr ρ)) (kx : Nat → Sh → Mx → Option (Hr ρ)) : Option (Hr ρ) := match o with
  | some q => (match q.1 with
    | .inl v => adc q.2.2.2.1 q.2.2.2.2 (kn v q.2.1 q.2.2.1)
    | .inr x => adc q.2.2.2.1 q.2.2.2.2 (kx x q.2.1 q.2.2.1))
  | none => none
theorem bndC_inv {α ρ : Type} {o : Option (Hr (α ⊕ Nat))} {kn : α → Sh → Mx → Option (Hr ρ)} {kx : Nat → Sh → Mx → Option (Hr ρ)} {r : Hr ρ} (h : bndC o kn kx = some r) : ∃ o1, o = some o1 ∧ bndC (some o1) kn kx = some r := by
  cases o with
  | none => cases h
  | some q => exact ⟨q, rfl, h⟩
abbrev XNo (g : Gp) : String → State → State → Prop := vx_X (fun _ : Unit => False) (fun _ _ _ => False) (gA g)
def LwI (g : Gp) (l : Launch) (y : MethodName) (cy : ByteArray) (nL : Nat) (rt : Option FieldType) (hh : List (Nat × Nat × Nat × Nat)) (fr lo : Nat) (av : List Value) (σ : Sh) (X : Mx) (z : Nat) (r : Hr Int32) : Prop :=
  vx_Met l y (Cond.codeWith y cy nL rt hh :: TB) (rmH fr lo r.2.2.2.1 r.2.2.2.2) (va_Pc av (RpH g σ X z)) (va_Qi (fun v u => v = r.1 ∧ u = (r.2.1, r.2.2.1)) (fun u t => Rp g u.1 u.2 t) (gA g)) (XNo g) r.2.2.2.1 r.2.2.2.2 (gA g)
abbrev QW (g : Gp) (below : List Frame) (args : Array Value) (s : State) (mc ms : Nat) (v0 : Int32) (σ0 : Sh) (X0 : Mx) : State → Prop := vx_MQ below (va_Qi (fun v u => v = v0 ∧ u = (σ0, X0)) (fun u t => Rp g u.1 u.2 t) (gA g)) (XNo g) args s mc ms (gA g)
def mOKW (y : MethodName) (cy : ByteArray) (nL : Nat) (rt : Option FieldType) (hh : List (Nat × Nat × Nat × Nat)) (n : Nat) : Prop := Cond.codeWith y cy nL rt hh ∈ TB ∧ plainName y.cls = true ∧ (y.cls ≠ "java/lang/invoke/MethodHandle" ∧ y.cls ≠ "java/lang/invoke/VarHandle" ∧ (parseMethodDescriptor y.desc).map (fun d => d.parameters.length) = some n) ∧ Cond.initialized y.cls ∈ TB
section LAWROWS
variable {p : Program} {l : Launch} {e : Env} {R : Room} {s : State} {m : MethodId} {args : Array Value} {below : List Frame} {meth : Method} {c : Code} {H : Heap} {locs : List Loc} {cells slots : Nat} {Q : State → Prop}
variable {g : Gp} {own : String} {cc : ByteArray} {nL : Nat} {rt : Option FieldType} {σ : Sh} {X : Mx} {pc z : Nat} {ls : Array Slot} {rest st0 As : List Value} {ρ : Type} {v0 : ρ} {σ0 : Sh} {X0 : Mx} {cu du : Nat}
variable {y : MethodName} {cy : ByteArray} {nLy fr lo idx n b ci : Nat} {rty : Option FieldType} {q : vw_C}
theorem r_last (C : Cx g own cc nL rt p s m args meth c) (hW : Wd g σ X s H locs) {a : Nat} {i : Int32} {v : Int64} {r : ρ} {cont : Mx → Option ρ} (h : stL σ X a i v cont = some r) (hdg : decode cc pc = .ok (.lastore, 1))
    (kk : ∀ X' H1 locs1, cont X' = some r → Wd g σ X' s H1 locs1 → H.size ≤ H1.size → W p l e R s m args below meth c H1 locs1 cells slots Q (F0 m (pc + 1) ls rest)) : W p l e R s m args below meth c H locs cells slots Q (F0 m pc ls (.long v :: .int i :: .ref a :: rest)) := by
  obtain ⟨⟨hK, hi⟩, h⟩ := if_inv h
  obtain ⟨⟨hx, hb, hml, hown, hts⟩, hKK, -, -, -⟩ := C
  obtain ⟨hP, hD, hS, hO⟩ := hW
  obtain ⟨kq, hkq⟩ := pool_get (g := g) (X := X) hO (show shK σ a < 13 by omega)
  have hkq0 := hkq
  rw [cE_l hK] at hkq
  refine va_last hx hb hKK hP hD (va_S.here hS) kq 3 hkq rfl hi hdg (fun H1 locs1 hP1 hD1 hS1 => ?_)
  have hset := pool_set (X' := sJ X a i.toNatClampNeg v) (e := .inl (g.2.1.2.2.2, shN σ a, .inr (.inl (vp_updL (X.2 a) i.toNatClampNeg v)))) hD hO (show shK σ a < 13 by omega) hkq0 (put_arr (fun b hb => ⟨rfl, (sJ_ne hb).symm⟩) (by rw [cE_l hK, sJ_at]))
  rw [hset] at hP1 hD1
  exact kk _ _ _ h ⟨hP1, hD1, hS.on hS1, hO⟩ hS1.1
theorem r_lald (C : Cx g own cc nL rt p s m args meth c) (hW : Wd g σ X s H locs) {a : Nat} {i : Int32} {r : ρ} {cont : Int64 → Option ρ} (h : ldL σ X a i cont = some r) (hdg : decode cc pc = .ok (.laload, 1))
    (kk : ∀ x, cont x = some r → W p l e R s m args below meth c H locs cells slots Q (F0 m (pc + 1) ls (.long x :: rest))) : W p l e R s m args below meth c H locs cells slots Q (F0 m pc ls (.int i :: .ref a :: rest)) := by
  obtain ⟨⟨hK, hi⟩, h⟩ := if_inv h
  obtain ⟨⟨hx, hb, hml, hown, hts⟩, hKK, -, -, -⟩ := C
  obtain ⟨hP, hD, hS, hO⟩ := hW
  obtain ⟨kq, hkq⟩ := pool_get (g := g) (X := X) hO (show shK σ a < 13 by omega)
  rw [cE_l hK] at hkq
  exact va_lald hx hb hKK hP kq 3 hkq rfl hi hdg (kk _ h)
/-- the call inside a try: it returns, or one of the handlers takes what it threw -/
theorem c_WV {mc ms fr1 lo1 : Nat} {o : Hr (Int32 ⊕ Nat)} {kn : Int32 → Sh → Mx → Option (Hr ρ)} {kx : Nat → Sh → Mx → Option (Hr ρ)} (C : Cx g own cc nL rt p s m args meth c) (hW : Wd g σ X s H locs) (hzz : H.size = z) (hm : cells + cu = mc ∧ slots + du = ms) (h : bndC (some o) kn kx = some (v0, σ0, X0, cu, du)) (hM : HxI g l y cy nLy rty fr1 lo1 (.ref b :: As) σ X z o) (hmk : mOK y cy nLy rty n) (hv : vOK own idx y) (hb : shK σ b = ci) (hvc : vwCl[ci]? = some q) (hq : q.1 = y.cls) (h9 : ci < 9) (hR : fr1 + 1 ≤ fr ∧ 8 + (nLy + 11) + lo1 ≤ lo) (hn : As.length = n) (hst : st0 = As.reverse ++ .ref b :: rest) (hsz : (rest.map fun v => v.category).sum ≤ 8) (hls : ls.size = nL) (hdg : decode cc pc = .ok (.invokevirtual idx, 3))
    (k1 : ∀ v σ1 X1 H1 locs1 cells slots cu du, kn v σ1 X1 = some (v0, σ0, X0, cu, du) → Wd g σ1 X1 s H1 locs1 → (cells + cu = mc ∧ slots + du = ms) → W p l e (rmH fr lo mc ms) s m args below meth c H1 locs1 cells slots Q (F0 m (pc + 3) ls (.int v :: rest)))
    (k2 : ∀ x σ1 X1 H1 locs1 cells slots cu du q9 ce, kx x σ1 X1 = some (v0, σ0, X0, cu, du) → Wd g σ1 X1 s H1 locs1 → (cells + cu = mc ∧ slots + du = ms) → H1[q9]? = some ce → ce.vm = .none → s.vm.findClass (xcN x) = some ce.cls → vx_W p l e (rmH fr lo mc ms) s m args below meth c H1 locs1 cells slots Q (F0 m pc ls rest) q9) : W p l e (rmH fr lo mc ms) s m args below meth c H locs cells slots Q (F0 m pc ls st0) := by
  obtain ⟨w, σ1, X1, c1, d1⟩ := o
  have hcs : ∀ c' d', cu = c' + c1 → du = d' + d1 → cells + c1 ≤ mc ∧ slots + d1 ≤ ms := fun c' d' e1 e2 => ⟨by omega, by omega⟩
  cases w with
  | inl v =>
    obtain ⟨c', d', hh, e1, e2⟩ := adc_inv (show adc c1 d1 (kn v σ1 X1) = some (v0, σ0, X0, cu, du) from h)
    refine vx_calli (run_XV (R := rmH fr lo mc ms) (mc := c1) (ms := d1) (As := As) (rest := rest) C hW hzz hM hmk hv hb hvc hq h9 hR (hcs c' d' e1 e2) hn hst hsz hls hdg) hW.2.2.1 (fun q _ h => h) (fun q h => h) (fun q _ h => h) ?_ ?_
    · intro E ce q9 u t H1 locs1 ht hvm hp
      cases hp
    · intro v' u t H1 locs1 ht hvm hw hB hz hk hS
      obtain ⟨hv, rfl⟩ := hw
      cases hv
      obtain ⟨⟨hP1, hK1, hD1, hz1, hO, -⟩, hsz⟩ := hB
      rw [ht] at hP1
      exact k1 _ _ _ _ _ _ _ _ _ hh ⟨hP1, hD1, hS, hO⟩ ⟨by omega, by omega⟩
  | inr x =>
    obtain ⟨c', d', hh, e1, e2⟩ := adc_inv (show adc c1 d1 (kx x σ1 X1) = some (v0, σ0, X0, cu, du) from h)
    refine vx_calli (run_XV (R := rmH fr lo mc ms) (mc := c1) (ms := d1) (As := As) (rest := rest) C hW hzz hM hmk hv hb hvc hq h9 hR (hcs c' d' e1 e2) hn hst hsz hls hdg) hW.2.2.1 (fun q _ h => h) (fun q h => h) (fun q _ h => h) ?_ ?_
    · intro E ce q9 u t H1 locs1 ht hvm hp hB hz hk hS he hv hcl
      have hxu : x = u := Sum.inr.inj hp
      subst hxu
      obtain ⟨rfl, hP1, hD1, hO⟩ := hB
      rw [ht] at hP1
      exact k2 _ _ _ _ _ _ _ _ _ _ _ hh ⟨hP1, hD1, hS, hO⟩ ⟨by omega, by omega⟩ he hv hcl
    · intro v' u t H1 locs1 ht hvm hw
      cases hw.1
theorem r_wret {mc ms : Nat} {v w0 : Int32} (C : Cx g own cc nL (some .int) p s m args meth c) (hW : Wd g σ X s H locs) (hm : cells + cu = mc ∧ slots + du = ms) (h : some (v, σ, X, 0, 0) = some (w0, σ0, X0, cu, du)) (hdg : decode cc pc = .ok (.ireturn, 1)) : W p l e (rmH fr lo mc ms) s m args below meth c H locs cells slots (QW g below args s mc ms w0 σ0 X0) (F0 m pc ls [.int v]) := by
  simp only [Option.some.injEq, Prod.mk.injEq] at h
  obtain ⟨rfl, rfl, rfl, rfl, rfl⟩ := h
  obtain ⟨rfl, rfl⟩ := hm
  obtain ⟨⟨hx, hb, hml, hown, hts⟩, hK, hg, hr, hlocks, hsc⟩ := C
  obtain ⟨hP, hD, hS, hO⟩ := hW
  exact vx_ret (W.zret hx hb hr rfl (fun t ht hw => ⟨⟨v, (σ, X), rfl, ⟨rfl, rfl⟩, by rw [ht]; exact hP, va_K.moved hw.alike hK, hD, by rw [ht]; exact Nat.le_trans hg hS.1, hO, Sc.warm hw (fun a h1 h2 => by rw [ht]; exact hS.2.1 a h1 h2) hsc⟩, hS.F ht⟩) hS.2.2 hdg hlocks)
theorem met_ofL {mc ms : Nat} {hh : List (Nat × Nat × Nat × Nat)} {av : List Value} {XC : String → State → State → Prop} {Qc : Array Value → State → Outcome → State → Prop} (hm : mOKW y cy nLy rty hh n) (hlen : (lg_sl av).length ≤ nLy)
    (body : ∀ (p : Program) (e : Env) (s : State) (m : MethodId) (args : Array Value) (below : List Frame) (meth : Method) (c : Code) (ls : Array Slot), Cx g y.cls cy nLy rty p s m args meth c → c.exceptionTable.toList = tableOf hh → Wd g σ X s s.heap [] → s.heap.size = z → lv_has ls nLy (lv_args 0 av) →
      W p l e (rmH fr lo mc ms) s m args below meth c s.heap [] 0 0 (vx_MQ below Qc XC args s mc ms (gA g)) (F0 m 0 ls [])) : vx_Met l y (Cond.codeWith y cy nLy rty hh :: TB) (rmH fr lo mc ms) (va_Pc av (RpH g σ X z)) Qc XC mc ms (gA g) := by
  refine vx_ofWH (cc := cy) (maxL := nLy) (ret := rty) (hh := hh) hm.2.1 rfl ?_
  intro p e s m args below meth c s₁ B hml hv
  obtain ⟨rfl, ⟨hP, hK, hD, hg, hO, hsc⟩, hzz⟩ := hv
  have hts := atoms_spec (ws := Cond.codeWith y cy nLy rty hh :: TB) B.pre
  have hown : s.vm.findClass y.cls = some m.cls := findClass_of_methodNamed B.named
  have hT := vx_table (x := y) B (hts _ List.mem_cons_self)
  rw [lg_entry_eq]
  exact body p e s m _ below meth c _ ⟨⟨B.exec, B.bytes, hml, hown, fun w h => hts w (List.mem_cons_of_mem _ h)⟩, hK, hg, B.returns, B.notSynchronized, hsc⟩ hT ⟨hP, hD, va_S.rf, hO⟩ hzz (lv_entry av hlen)
/-- what was thrown is taken by the first handler -/
theorem w_catch {hh : List (Nat × Nat × Nat × Nat)} {E : String} {q9 : Addr} {ce : Cell} {x : Jvm.ClassFile.ExceptionTableEntry} {suf : List Jvm.ClassFile.ExceptionTableEntry} (C : Cx g own cc nL rt p s m args meth c) (hT : c.exceptionTable.toList = tableOf hh) (hx : tableOf hh = x :: suf) (hcv : covers x pc = true) (h0 : x.catchType ≠ 0) (hlk : Cond.classLink own x.catchType E ∈ TB) (hcc : (E, E) ∈ nwC) (hce : H[q9]? = some ce) (hv : ce.vm = .none) (hcl : s.vm.findClass E = some ce.cls)
    (kk : W p l e R s m args below meth c H locs cells slots Q (F0 m x.handlerPc ls [.ref q9])) : vx_W p l e R s m args below meth c H locs cells slots Q (F0 m pc ls rest) q9 :=
  vx_catch C.1.2.2.2.1 [] x suf (by rw [hT, hx]; rfl) (fun z hz => nomatch hz) hcv h0 (C.1.2.2.2.2 _ hlk) (va_Nw.use rfl (C.2.2.2.2.2.2.2.2.2.2.2.2.2.1 _ hcc)) hce hv hcl kk
/-- .. by the second one: the first names another -/
theorem w_catch2 {hh : List (Nat × Nat × Nat × Nat)} {q9 : Addr} {ce : Cell} {x1 x : Jvm.ClassFile.ExceptionTableEntry} {suf : List Jvm.ClassFile.ExceptionTableEntry} (C : Cx g own cc nL rt p s m args meth c) (hT : c.exceptionTable.toList = tableOf hh) (hx : tableOf hh = x1 :: x :: suf) (h1 : x1.catchType ≠ 0) (hlk1 : Cond.classLink own x1.catchType "java/util/NoSuchElementException" ∈ TB) (hcv : covers x pc = true) (h0 : x.catchType ≠ 0) (hlk : Cond.classLink own x.catchType "java/lang/IllegalArgumentException" ∈ TB) (hce : H[q9]? = some ce) (hv : ce.vm = .none) (hcl : s.vm.findClass "java/lang/IllegalArgumentException" = some ce.cls)
    (kk : W p l e R s m args below meth c H locs cells slots Q (F0 m x.handlerPc ls [.ref q9])) : vx_W p l e R s m args below meth c H locs cells slots Q (F0 m pc ls rest) q9 :=
  vx_catch C.1.2.2.2.1 [x1] x suf (by rw [hT, hx]; rfl) (fun z hz => by
    rw [List.mem_singleton] at hz
    subst hz
    exact Or.inr ⟨h1, _, C.1.2.2.2.2 _ hlk1, C.2.2.2.2.2.2.2.2.2.2.2.2.2.2.2.2⟩) hcv h0 (C.1.2.2.2.2 _ hlk) (va_Nw.use rfl (C.2.2.2.2.2.2.2.2.2.2.2.2.2.1 ("java/lang/IllegalArgumentException", "java/lang/IllegalArgumentException") (by decide +kernel))) hce hv hcl kk
/-! the law's own rows: its script, and its calls -/
def ldS {ρ : Type} (L : Nat) (xs : Nat → Int32) (i : Int32) (cont : Int32 → Option ρ) : Option ρ := if ¬ (i < 0 ∨ L ≤ i.toNatClampNeg) then cont (xs i.toNatClampNeg) else none
theorem r_sld {L x0 : Nat} {xs : Nat → Int32} {i : Int32} {r : ρ} {cont : Int32 → Option ρ} (hx : p.tables.exec = Jvm.exec) (hb : c.code = cc) (hX : va_X x0 L xs s s.heap) (hbl : x0 < s.heap.size) (hbA : ¬ gA g x0) (hW : Wd g σ X s H locs) (h : ldS L xs i cont = some r) (hdg : decode cc pc = .ok (.iaload, 1))
    (kk : ∀ x, cont x = some r → W p l e R s m args below meth c H locs cells slots Q (F0 m (pc + 1) ls (.int x :: rest))) : W p l e R s m args below meth c H locs cells slots Q (F0 m pc ls (.int i :: .ref x0 :: rest)) := by
  obtain ⟨hi, h⟩ := if_inv h
  exact va_sld hx hb hX hbl hbA hW.2.2.1 hi hdg (kk _ h)
theorem l_cs {mc ms : Nat} (hm : cells + cu = mc ∧ slots + du = ms) (hcap : mc ≤ 601024 ∧ ms ≤ 7293034) : cells ≤ room_1.cells ∧ slots ≤ room_1.slots := ⟨show cells ≤ 601024 by omega, show slots ≤ 7293034 by omega⟩
theorem l_SW {mc ms fr1 lo1 c' d' c1 d1 : Nat} {hh : List (Nat × Nat × Nat × Nat)} {w : Int32} {σ1 : Sh} {X1 : Mx} (C : Cx g own cc nL rt p s m args meth c) (hW : Wd g σ X s H locs) (hzz : H.size = z) (hcu : cu = c' + c1) (hdu : du = d' + d1) (hm : cells + cu = mc ∧ slots + du = ms) (hcap : mc ≤ 601024 ∧ ms ≤ 7293034) (hM : LwI g l y cy nLy rty hh fr1 lo1 As σ X z (w, σ1, X1, c1, d1)) (hmk : mOKW y cy nLy rty hh n) (hv : sOK own idx y) (hR : fr1 + 1 ≤ 14 ∧ 8 + (nLy + 11) + lo1 ≤ 526) (hn : As.length = n) (hst : st0 = As.reverse ++ rest) (hsz : (rest.map fun v => v.category).sum ≤ 8) (hls : ls.size = nL) (hdg : decode cc pc = .ok (.invokestatic idx, 3))
    (kk : ∀ H1 locs1 cells slots, Wd g σ1 X1 s H1 locs1 → (cells + c' = mc ∧ slots + d' = ms) → W p l e room_1 s m args below meth c H1 locs1 cells slots Q (F0 m (pc + 3) ls (.int w :: rest))) : W p l e room_1 s m args below meth c H locs cells slots Q (F0 m pc ls st0) := by
  have hts := C.1.2.2.2.2
  obtain ⟨h1, h2, h3, h4⟩ := hmk
  obtain ⟨v1, v2⟩ := hv
  have hG : GoodIn TB (Cond.codeWith y cy nLy rty hh :: TB) := fun w hw => by
    have h9 : w ∈ TB := by
      rcases List.mem_cons.mp hw with q | q
      · rw [q]; exact h1
      · exact q
    exact ⟨h9, good_of_word (List.mem_filter.mp h9).2⟩
  refine vx_calli (vx_runSX (R := room_1) (hh := hh) (bytes := cy) (maxL := nLy) (ret := rty) (n := n) (mc := c1) (ms := d1) (As := As) (rest := rest) C.1 hM ⟨⟨rfl, rfl, hR.1, hR.2, pay_in hts hG, List.mem_cons_self⟩, hts _ h1, hts _ h4, ⟨h3.1, h3.2.1⟩, fun sig h => ?_, hts _ v1, hts _ v2⟩ ⟨rph_blind, rph_pre C hW hzz⟩ rfl hn hls hst (lv_room hsz) hdg ⟨show cells + c1 ≤ 601024 by omega, show slots + d1 ≤ 7293034 by omega⟩) hW.2.2.1 (fun q _ h => h) (fun q h => h) (fun q _ h => h) ?_ ?_
  · have h5 := h3.2.2
    rw [h] at h5
    exact (Option.some.inj h5).symm
  · intro E ce q9 u t H1 locs1 ht hvm hp
    exact hp.elim
  · intro v' u t H1 locs1 ht hvm hw hB hz hk hS
    obtain ⟨rfl, rfl⟩ := hw
    obtain ⟨hP1, hK1, hD1, hz1, hO, -⟩ := hB
    rw [ht] at hP1
    exact kk _ _ _ _ ⟨hP1, hD1, hS, hO⟩ ⟨by omega, by omega⟩
theorem l_HV_I {mc ms fr1 lo1 c' d' c1 d1 : Nat} {w : Int32} {σ1 : Sh} {X1 : Mx} (C : Cx g own cc nL rt p s m args meth c) (hW : Wd g σ X s H locs) (hzz : H.size = z) (hcu : cu = c' + c1) (hdu : du = d' + d1) (hm : cells + cu = mc ∧ slots + du = ms) (hcap : mc ≤ 601024 ∧ ms ≤ 7293034) (hM : HvI g l y cy nLy rty fr1 lo1 (.ref b :: As) σ X z (w, σ1, X1, c1, d1)) (hmk : mOK y cy nLy rty n) (hv : vOK own idx y) (hb : shK σ b = ci) (hvc : vwCl[ci]? = some q) (hq : q.1 = y.cls) (h9 : ci < 9) (hR : fr1 + 1 ≤ 14 ∧ 8 + (nLy + 11) + lo1 ≤ 526) (hn : As.length = n) (hst : st0 = As.reverse ++ .ref b :: rest) (hsz : (rest.map fun v => v.category).sum ≤ 8) (hls : ls.size = nL) (hdg : decode cc pc = .ok (.invokevirtual idx, 3))
    (kk : ∀ H1 locs1 cells slots, Wd g σ1 X1 s H1 locs1 → (cells + c' = mc ∧ slots + d' = ms) → W p l e room_1 s m args below meth c H1 locs1 cells slots Q (F0 m (pc + 3) ls (.int w :: rest))) : W p l e room_1 s m args below meth c H locs cells slots Q (F0 m pc ls st0) := by
  refine va_calli (run_HV (R := room_1) (mc := c1) (ms := d1) (As := As) (rest := rest) C hW hzz hM hmk hv hb hvc hq h9 hR ⟨show cells + c1 ≤ 601024 by omega, show slots + d1 ≤ 7293034 by omega⟩ hn hst hsz hls hdg) hW.2.2.1 (fun q _ h => h) (fun q h => h) (fun v u t H1 locs1 ht hvm hw hB hz hk hS => ?_)
  obtain ⟨rfl, rfl⟩ := hw
  obtain ⟨⟨hP1, hK1, hD1, hz1, hO, -⟩, -⟩ := hB
  rw [ht] at hP1
  exact kk _ _ _ _ ⟨hP1, hD1, hS, hO⟩ ⟨by omega, by omega⟩
theorem l_HV_V {mc ms fr1 lo1 c' d' c1 d1 : Nat} {w : Unit} {σ1 : Sh} {X1 : Mx} (C : Cx g own cc nL rt p s m args meth c) (hW : Wd g σ X s H locs) (hzz : H.size = z) (hcu : cu = c' + c1) (hdu : du = d' + d1) (hm : cells + cu = mc ∧ slots + du = ms) (hcap : mc ≤ 601024 ∧ ms ≤ 7293034) (hM : HvV g l y cy nLy rty fr1 lo1 (.ref b :: As) σ X z (w, σ1, X1, c1, d1)) (hmk : mOK y cy nLy rty n) (hv : vOK own idx y) (hb : shK σ b = ci) (hvc : vwCl[ci]? = some q) (hq : q.1 = y.cls) (h9 : ci < 9) (hR : fr1 + 1 ≤ 14 ∧ 8 + (nLy + 11) + lo1 ≤ 526) (hn : As.length = n) (hst : st0 = As.reverse ++ .ref b :: rest) (hsz : (rest.map fun v => v.category).sum ≤ 8) (hls : ls.size = nL) (hdg : decode cc pc = .ok (.invokevirtual idx, 3))
    (kk : ∀ H1 locs1 cells slots, Wd g σ1 X1 s H1 locs1 → (cells + c' = mc ∧ slots + d' = ms) → W p l e room_1 s m args below meth c H1 locs1 cells slots Q (F0 m (pc + 3) ls rest)) : W p l e room_1 s m args below meth c H locs cells slots Q (F0 m pc ls st0) := by
  refine va_callv (run_HV (R := room_1) (mc := c1) (ms := d1) (As := As) (rest := rest) C hW hzz hM hmk hv hb hvc hq h9 hR ⟨show cells + c1 ≤ 601024 by omega, show slots + d1 ≤ 7293034 by omega⟩ hn hst hsz hls hdg) hW.2.2.1 (fun q _ h => h) (fun q h => h) (fun u t H1 locs1 ht hvm hw hB hz hk hS => ?_)
  subst hw
  obtain ⟨⟨hP1, hK1, hD1, hz1, hO, -⟩, -⟩ := hB
  rw [ht] at hP1
  exact kk _ _ _ _ ⟨hP1, hD1, hS, hO⟩ ⟨by omega, by omega⟩
end LAWROWS
