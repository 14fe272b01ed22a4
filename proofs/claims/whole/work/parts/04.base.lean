def fTs : List (List Nat) := [[1, 0, 0], [1, 1, 0, 0, 1, 1, 1, 1], [1, 1, 1, 1, 1, 0, 0], [0, 1, 1, 1], [1, 1, 1, 0, 0, 0, 1, 1, 1, 1], [0, 0, 1, 1, 1], [1, 0, 1, 0, 0, 0, 0, 0, 0, 0, 0], [1, 1, 1, 1, 1, 1, 1, 1, 1, 0, 0, 0, 1], [0, 1, 0, 0, 0, 1, 0, 0, 0, 0, 0, 0, 0, 2, 0, 0, 0, 1, 1, 0, 0, 0, 0, 1, 1, 1, 1, 1, 1, 1, 1, 1, 0, 1, 0, 0, 0, 0, 1, 1, 1]]
/-! ===== my own ground: one memory as functions, the pool of all cells, rows over it ===== -/
def TB : List Cond := lw_tbl.filter goodWord
theorem tb {w : Cond} (h : w ∈ lw_tbl) (hg : goodWord w = true) : w ∈ TB := List.mem_filter.mpr ⟨h, hg⟩
theorem tb_good {big : List Cond} (hb : ∀ w ∈ TB, w ∈ big) : GoodIn big TB := fun w h => ⟨hb w h, good_of_word (List.mem_filter.mp h).2⟩
theorem cp_nat : Cond.native arraycopyName ∈ TB := tb (by decide +kernel) (by decide +kernel)
theorem cp_st : Cond.static arraycopyName ∈ TB := tb (by decide +kernel) (by decide +kernel)
theorem cp_in : Cond.initialized "java/lang/System" ∈ TB := tb (by decide +kernel) (by decide +kernel)
/-- how many fields a type of object has, and of which kind each is: 0 int, 1 a reference, 2 long -/
def fN (ci : Nat) : Nat := [3, 8, 7, 4, 10, 5, 11, 13, 41].getD ci 0
def fT (ci k : Nat) : Nat := (fTs.getD ci []).getD k 0
abbrev Mx : Type := (Nat → Nat → Int32) × (Nat → Nat → Int64)
abbrev Sh : Type := (Nat → Nat → Option Nat) × (Nat → Nat) × (Nat → Nat) × List Nat
abbrev Gp : Type := va_G × (ClassId × ClassId × ClassId × ClassId) × Nat × (Nat → Nat) × (Nat → Nat)
def gB (g : Gp) : Nat := g.2.2.1
def gS (g : Gp) : Nat → Nat := g.2.2.2.1
def gV (g : Gp) : Nat → Nat := g.2.2.2.2
def wTx : List (Nat × String) := [(73, "column"), (82, "row"), (87, "unique"), (93, "needed"), (95, "below"), (97, "left"), (102, "right"), (193, "set"), (195, "insert"), (197, "delete"), (199, "rename"), (201, "retype"), (203, "add"), (205, "drop"), (210, "number"), (212, "digit"), (214, "even"), (216, "flag")]
def wBy : List (List Int32) := [[99, 111, 108, 117, 109, 110], [114, 111, 119], [117, 110, 105, 113, 117, 101], [110, 101, 101, 100, 101, 100], [98, 101, 108, 111, 119], [108, 101, 102, 116], [114, 105, 103, 104, 116], [115, 101, 116], [105, 110, 115, 101, 114, 116], [100, 101, 108, 101, 116, 101], [114, 101, 110, 97, 109, 101], [114, 101, 116, 121, 112, 101], [97, 100, 100], [100, 114, 111, 112], [110, 117, 109, 98, 101, 114], [100, 105, 103, 105, 116], [101, 118, 101, 110], [102, 108, 97, 103]]
def wB (w : Nat) : List Int32 := wBy.getD w []
def wN (w : Nat) : Nat := (wB w).length
def xTx : List (Nat × String) := [(81, "the tape has not so many bytes"), (155, "no such count"), (322, "no such table"), (162, "no such question of a table"), (167, "no such column, or question of it"), (179, "no such row or column"), (185, "no such row or column merged"), (190, "no such conflict"), (215, "no such question of a conflict"), (312, "no such side"), (267, "no such difference"), (314, "no such question"), (272, "no such choice"), (300, "no such number of years")]
def nwN : List (String × Nat × MethodName × String) := [("TableMerge", 18, ⟨"TableMerge$Merge", "<init>", "()V"⟩, "TableMerge"), ("TableMerge", 25, ⟨"TableMerge$Tape", "<init>", "()V"⟩, "TableMerge"), ("TableMerge", 32, ⟨"TableMerge$Acts", "<init>", "()V"⟩, "TableMerge"), ("TableMerge", 39, ⟨"TableMerge$Seen", "<init>", "()V"⟩, "TableMerge"), ("TableMerge", 46, ⟨"TableMerge$Questions", "<init>", "()V"⟩, "TableMerge"), ("TableMerge$Questions", 20, ⟨"TableMerge$Merge", "<init>", "()V"⟩, "TableMerge")]
def nwC : List (String × String) := [("java/lang/IllegalArgumentException", "java/lang/IllegalArgumentException"), ("java/util/NoSuchElementException", "java/util/NoSuchElementException"), ("TableMerge", "java/lang/Object"), ("TableMerge$State", "java/lang/Object"), ("TableMerge$Table", "java/lang/Object"), ("TableMerge$Merge", "java/lang/Object"), ("TableMerge$Tape", "java/lang/Object"), ("TableMerge$Acts", "java/lang/Object"), ("TableMerge$Seen", "java/lang/Object"), ("TableMerge$Questions", "java/lang/Object"), ("TableMergeModel", "java/lang/Object"), ("java/lang/IllegalArgumentException", "java/lang/Object"), ("java/util/NoSuchElementException", "java/lang/Object"), ("java/lang/Throwable", "java/lang/Object"), ("java/lang/String", "java/lang/Object")]
def nwD : List MethodName := [⟨"java/lang/RuntimeException", "<init>", "()V"⟩, ⟨"java/lang/RuntimeException", "<init>", "(Ljava/lang/String;)V"⟩, ⟨"java/lang/Exception", "<init>", "()V"⟩, ⟨"java/lang/Exception", "<init>", "(Ljava/lang/String;)V"⟩, ⟨"java/lang/Throwable", "<init>", "()V"⟩, ⟨"java/lang/Throwable", "<init>", "(Ljava/lang/String;)V"⟩]
def shR (σ : Sh) : Nat → Nat → Option Nat := σ.1
def shK (σ : Sh) : Nat → Nat := σ.2.1
def shN (σ : Sh) : Nat → Nat := σ.2.2.1
def shL (σ : Sh) : List Nat := σ.2.2.2
def fval (t : Nat) (i : Int32) (r : Option Nat) (j : Int64) : Value := if t = 0 then .int i else if t = 1 then va_rf r else .long j
def flds (σ : Sh) (X : Mx) (a : Nat) : List Value := (List.range (fN (shK σ a))).map (fun k => fval (fT (shK σ a) k) (X.1 a k) (shR σ a k) (X.2 a k))
def cE (g : Gp) (σ : Sh) (X : Mx) (a : Nat) : va_E :=
  if shK σ a < 9 then .inr (shK σ a, flds σ X a)
  else if shK σ a = 9 then .inl (g.2.1.1, shN σ a, .inl (X.1 a))
  else if shK σ a = 10 then .inl (g.2.1.2.1, shN σ a, .inl (X.1 a))
  else if shK σ a = 11 then .inl (g.2.1.2.2.1, shN σ a, .inr (.inr (.inr (.inr (shR σ a)))))
  else .inl (g.2.1.2.2.2, shN σ a, .inr (.inl (X.2 a)))
def tys (g : Gp) : List (ClassId × FieldType) := [(g.2.1.1, .byte), (g.2.1.2.1, .int), (g.2.1.2.2.1, .object "TableMerge$State"), (g.2.1.2.2.2, .long)]
def pool (g : Gp) (σ : Sh) (X : Mx) : va_W := va_pl (shL σ) (cE g σ X)
def gA (g : Gp) : Nat → Prop := fun q => gB g ≤ q
/-- the shape is whole: what has a kind is in the list -/
def ShOK (σ : Sh) : Prop := ∀ a, shK σ a < 13 → a ∈ shL σ
/-- the world between two instructions -/
def Wd (g : Gp) (σ : Sh) (X : Mx) (s : State) (H : Heap) (locs : List Loc) : Prop := va_P g.1 vwCl (pool g σ X) H ∧ va_D (gA g) (pool g σ X) ∧ va_S (gA g) s.heap H locs ∧ ShOK σ
/-- what stands below the world and never changes: the texts' words, the statics that a text's charAt and a throw read -/
def Sc (g : Gp) (U : State) (H : Heap) : Prop :=
  va_Z "java/lang/String" "COMPACT_STRINGS" "Z" (.int 1) (gA g) U H ∧ va_Zq "jdk/internal/util/Preconditions" "SIOOBE_FORMATTER" "Ljava/util/function/BiFunction;" (gA g) U H ∧
  (∀ w, w < 18 → va_O "java/lang/String" (gS g w) (gA g) U H ∧ va_OF "java/lang/String" "coder" "B" (.int 0) (gS g w) (gA g) U H ∧ va_OF "java/lang/String" "value" "[B" (.ref (gV g w)) (gS g w) (gA g) U H ∧ va_T .byte (gV g w) (wN w) (fun j => .int ((wB w).getD j 0)) (gA g) U H) ∧
  vx_Zq Bundle.tN "UNASSIGNED_STACK" Bundle.steD (gA g) U H ∧ vx_Zq Bundle.tN "SUPPRESSED_SENTINEL" Bundle.listD (gA g) U H ∧
  (∀ w, w < 18 → vk_R RX7 (wTx.getD w (0, "")).1 (wTx.getD w (0, "")).2 (gS g w) U) ∧ (∀ q ∈ xTx, ∃ sa, vk_R RX9 q.1 q.2 sa U) ∧
  (∀ q ∈ nwN, va_Nw (.methodLinkNest q.1 q.2.1 q.2.2.1 q.2.2.2) U) ∧ (∀ q ∈ nwC, va_Nw (.castable q.1 q.2) U) ∧ (∀ q ∈ nwD, va_Nw (.declares q) U) ∧ va_AO "TableMerge$State" U ∧ va_Nc "java/lang/IllegalArgumentException" "java/util/NoSuchElementException" U
theorem Sc.gen {g : Gp} {u U : State} {H H1 : Heap} (hvm : u.vm.Alike U.vm) (hR : ∀ (own : String) (k : Nat) (tx : String) (a : Nat), vk_R own k tx a u → vk_R own k tx a U) (hN : ∀ (a : String) (i : Nat) (x : MethodName) (h : String), va_Nw (.methodLinkNest a i x h) u → va_Nw (.methodLinkNest a i x h) U) (hC : ∀ (a b : String), va_Nw (.castable a b) u → va_Nw (.castable a b) U) (hE : ∀ (x : MethodName), va_Nw (.declares x) u → va_Nw (.declares x) U) (hq : ∀ a : Nat, a < H.size → ¬ gA g a → H1[a]? = H[a]?) (h : Sc g u H) : Sc g U H1 :=
  ⟨(va_Z.moved hvm h.1).kept hq, (va_Zq.moved hvm h.2.1).kept hq, fun w hw => ⟨(va_O.moved hvm (h.2.2.1 w hw).1).kept hq, (va_OF.moved hvm (h.2.2.1 w hw).2.1).kept hq, (va_OF.moved hvm (h.2.2.1 w hw).2.2.1).kept hq, (va_T.moved hvm (h.2.2.1 w hw).2.2.2).kept hq⟩,
   (vx_Zq.moved hvm h.2.2.2.1).kept hq, (vx_Zq.moved hvm h.2.2.2.2.1).kept hq, fun w hw => hR _ _ _ _ (h.2.2.2.2.2.1 w hw), fun q hq => (h.2.2.2.2.2.2.1 q hq).elim fun sa hs => ⟨sa, hR _ _ _ _ hs⟩, fun q hq => hN _ _ _ _ (h.2.2.2.2.2.2.2.1 q hq), fun q hq => hC _ _ (h.2.2.2.2.2.2.2.2.1 q hq), fun q hq => hE _ (h.2.2.2.2.2.2.2.2.2.1 q hq), va_AO.moved hvm h.2.2.2.2.2.2.2.2.2.2.1, va_Nc.moved hvm h.2.2.2.2.2.2.2.2.2.2.2⟩
theorem Sc.same {g : Gp} {u U : State} {H H1 : Heap} (hvm : u.vm.Alike U.vm) (hv : u.vm = U.vm) (hq : ∀ a : Nat, a < H.size → ¬ gA g a → H1[a]? = H[a]?) (h : Sc g u H) : Sc g U H1 :=
  Sc.gen hvm (fun _ _ _ _ h => vk_R.same hv.symm h) (fun _ _ _ _ h => va_Nw.same rfl hv h) (fun _ _ h => va_Nw.same rfl hv h) (fun _ h => va_Nw.same rfl hv h) hq h
theorem Sc.warm {g : Gp} {s U : State} {H H1 : Heap} (hw : s.WarmedH U.vm) (hq : ∀ a : Nat, a < H.size → ¬ gA g a → H1[a]? = H[a]?) (h : Sc g s H) : Sc g U H1 :=
  Sc.gen hw.alike (fun _ _ _ _ h => h.warm hw) (fun _ _ _ _ h => va_Nw.warmM hw h) (fun _ _ h => va_Nw.warmC hw h) (fun _ h => va_Nw.warmD hw h) hq h
/-- the world at a call's start and end -/
def Rp (g : Gp) (σ : Sh) (X : Mx) (U : State) : Prop := va_P g.1 vwCl (pool g σ X) U.heap ∧ va_K g.1 vwCl (tys g) U ∧ va_D (gA g) (pool g σ X) ∧ gB g ≤ U.heap.size ∧ ShOK σ ∧ Sc g U U.heap
/-- what a method's walk stands on -/
def Cx (g : Gp) (own : String) (cc : ByteArray) (nL : Nat) (rt : Option FieldType) (p : Program) (s : State) (m : MethodId) (args : Array Value) (meth : Method) (c : Code) : Prop :=
  CallFix p m c cc nL s args TB own ∧ va_K g.1 vwCl (tys g) s ∧ gB g ≤ s.heap.size ∧ meth.sig.returnType = rt ∧ meth.locks = false ∧ Sc g s s.heap
/-- a field's link -/
def fOK (own : String) (idx ci k t : Nat) : Prop := ∃ q : vw_C, vwCl[ci]? = some q ∧ k < q.2.2 ∧ q.2.2 = fN ci ∧ fT ci k = t ∧ Cond.fieldLink own idx (q.2.1 k).1 (q.2.1 k).2.1 (q.2.1 k).2.2.1 ∈ TB ∧ ∀ w ∈ u_ws q.1 q.2.1 q.2.2, w ∈ TB
/-- .. of one that may be written, with its type -/
def pOK (own : String) (idx ci k t : Nat) (ty : FieldType) : Prop := ∃ (q : vw_C) (ty0 : Nat → FieldType), vwCl[ci]? = some q ∧ k < q.2.2 ∧ q.2.2 = fN ci ∧ fT ci k = t ∧ Cond.fieldLink own idx (q.2.1 k).1 (q.2.1 k).2.1 (q.2.1 k).2.2.1 ∈ TB ∧ (∀ w ∈ u_ws q.1 q.2.1 q.2.2, w ∈ TB) ∧ (∀ k, k < q.2.2 → parseFieldDescriptor (q.2.1 k).2.2.1 = some (ty0 k)) ∧ (∀ a, a < q.2.2 → ∀ b, b < q.2.2 → a ≠ b → (q.2.1 a).2.1 ≠ (q.2.1 b).2.1) ∧ (q.2.1 k).2.2.2 = false ∧ ty0 k = ty
def mOK (y : MethodName) (cy : ByteArray) (nL : Nat) (rt : Option FieldType) (n : Nat) : Prop := Cond.code y cy nL rt ∈ TB ∧ plainFor y = true ∧ (y.cls ≠ "java/lang/invoke/MethodHandle" ∧ y.cls ≠ "java/lang/invoke/VarHandle" ∧ (parseMethodDescriptor y.desc).map (fun d => d.parameters.length) = some n) ∧ Cond.initialized y.cls ∈ TB
/-- links of calls -/
def vOK (own : String) (idx : Nat) (y : MethodName) : Prop := Cond.methodLink own idx y ∈ TB ∧ Cond.instanceMethod y ∈ TB ∧ Cond.selects y.cls y y ∈ TB
def sOK (own : String) (idx : Nat) (y : MethodName) : Prop := Cond.methodLink own idx y ∈ TB ∧ Cond.static y ∈ TB

/-! memory's own words -/
def sI (X : Mx) (a k : Nat) (v : Int32) : Mx := (fun b j => if b = a ∧ j = k then v else X.1 b j, X.2)
def sJ (X : Mx) (a k : Nat) (v : Int64) : Mx := (X.1, fun b j => if b = a ∧ j = k then v else X.2 b j)
def ldI {ρ : Type} (σ : Sh) (X : Mx) (ci a k : Nat) (cont : Int32 → Option ρ) : Option ρ := if shK σ a = ci then cont (X.1 a k) else none
def ldJ {ρ : Type} (σ : Sh) (X : Mx) (ci a k : Nat) (cont : Int64 → Option ρ) : Option ρ := if shK σ a = ci then cont (X.2 a k) else none
def ldR {ρ : Type} (σ : Sh) (ci a k : Nat) (cont : Nat → Option ρ) : Option ρ := if shK σ a = ci then (shR σ a k).bind cont else none
def stI {ρ : Type} (σ : Sh) (X : Mx) (ci a k : Nat) (v : Int32) (cont : Mx → Option ρ) : Option ρ := if shK σ a = ci then cont (sI X a k v) else none
def stJ {ρ : Type} (σ : Sh) (X : Mx) (ci a k : Nat) (v : Int64) (cont : Mx → Option ρ) : Option ρ := if shK σ a = ci then cont (sJ X a k v) else none
def ldA {ρ : Type} (σ : Sh) (X : Mx) (kd a : Nat) (i : Int32) (cont : Int32 → Option ρ) : Option ρ := if shK σ a = kd ∧ ¬ (i < 0 ∨ shN σ a ≤ i.toNatClampNeg) then cont (X.1 a i.toNatClampNeg) else none
def stA {ρ : Type} (σ : Sh) (X : Mx) (kd a : Nat) (i v : Int32) (cont : Mx → Option ρ) : Option ρ := if shK σ a = kd ∧ ¬ (i < 0 ∨ shN σ a ≤ i.toNatClampNeg) then cont (sI X a i.toNatClampNeg v) else none
def lenA {ρ : Type} (σ : Sh) (kd a : Nat) (cont : Int32 → Option ρ) : Option ρ := if shK σ a = kd then cont (Int32.ofNat (shN σ a)) else none
def bnd2 {α β ρ : Type} (o : Option (α × β)) (k : α → β → Option ρ) : Option ρ := match o with
  | some q => k q.1 q.2
  | none => none
def grd {ρ : Type} (P : Prop) [Decidable P] (k : Option ρ) : Option ρ := if P then k else none

theorem bnd_inv {α ρ : Type} {o : Option α} {k : α → Option ρ} {r : ρ} (h : o.bind k = some r) : ∃ v, o = some v ∧ k v = some r := by
  cases o with
  | none => cases h
  | some v => exact ⟨v, rfl, h⟩
theorem bnd2_inv {α β ρ : Type} {o : Option (α × β)} {k : α → β → Option ρ} {r : ρ} (h : bnd2 o k = some r) : ∃ v u, o = some (v, u) ∧ k v u = some r := by
  cases o with
  | none => cases h
  | some q => exact ⟨q.1, q.2, rfl, h⟩
theorem grd_inv {ρ : Type} {P : Prop} [Decidable P] {k : Option ρ} {r : ρ} (h : grd P k = some r) : P ∧ k = some r := by
  unfold grd at h
  by_cases hP : P
  · rw [if_pos hP] at h; exact ⟨hP, h⟩
  · rw [if_neg hP] at h; cases h
theorem if_inv {ρ : Type} {P : Prop} [Decidable P] {k : Option ρ} {r : ρ} (h : (if P then k else none) = some r) : P ∧ k = some r := grd_inv h

/-! the pool's cells -/
theorem cE_obj {g : Gp} {σ : Sh} {X : Mx} {a ci : Nat} (h : shK σ a = ci) (hc : ci < 9) : cE g σ X a = .inr (ci, flds σ X a) := by
  subst h; unfold cE; rw [if_pos hc]
theorem cE_b {g : Gp} {σ : Sh} {X : Mx} {a : Nat} (h : shK σ a = 9) : cE g σ X a = .inl (g.2.1.1, shN σ a, .inl (X.1 a)) := by
  unfold cE; rw [h]; rfl
theorem cE_i {g : Gp} {σ : Sh} {X : Mx} {a : Nat} (h : shK σ a = 10) : cE g σ X a = .inl (g.2.1.2.1, shN σ a, .inl (X.1 a)) := by
  unfold cE; rw [h]; rfl
theorem cE_r {g : Gp} {σ : Sh} {X : Mx} {a : Nat} (h : shK σ a = 11) : cE g σ X a = .inl (g.2.1.2.2.1, shN σ a, .inr (.inr (.inr (.inr (shR σ a))))) := by
  unfold cE; rw [h]; rfl
theorem cE_l {g : Gp} {σ : Sh} {X : Mx} {a : Nat} (h : shK σ a = 12) : cE g σ X a = .inl (g.2.1.2.2.2, shN σ a, .inr (.inl (X.2 a))) := by
  unfold cE; rw [h]; rfl
theorem flds_get {σ : Sh} {X : Mx} {a k : Nat} (h : k < fN (shK σ a)) : (flds σ X a)[k]? = some (fval (fT (shK σ a) k) (X.1 a k) (shR σ a k) (X.2 a k)) := by
  simp [flds, h]
theorem flds_len {σ : Sh} {X : Mx} {a : Nat} : (flds σ X a).length = fN (shK σ a) := by simp [flds]
theorem pool_get {g : Gp} {σ : Sh} {X : Mx} {a : Nat} (hS : ShOK σ) (h : shK σ a < 13) : ∃ k : Nat, (pool g σ X)[k]? = some (a, cE g σ X a) := va_pl_get (X := []) (hS a h)
theorem pool_set {g : Gp} {σ : Sh} {X X' : Mx} {a k : Nat} {e : va_E} {A : Nat → Prop} (hD : va_D A (pool g σ X)) (hS : ShOK σ) (h : shK σ a < 13) (hk : (pool g σ X)[k]? = some (a, cE g σ X a)) (hp : ∀ b, va_up (cE g σ X) a e b = cE g σ X' b) : (pool g σ X).set k (a, e) = pool g σ X' := by
  have h1 := va_pl_set (X := []) (e := e) hD (hS a h) hk
  rw [List.nil_append, List.nil_append] at h1
  unfold pool
  rw [h1]
  exact va_pl_congr hp
theorem cE_same {g : Gp} {σ : Sh} {X X' : Mx} {b : Nat} (h1 : X.1 b = X'.1 b) (h2 : X.2 b = X'.2 b) : cE g σ X b = cE g σ X' b := by
  unfold cE flds; rw [h1, h2]
theorem sI_ne {X : Mx} {a b k : Nat} {v : Int32} (h : b ≠ a) : (sI X a k v).1 b = X.1 b := by
  funext j; simp [sI, h]
theorem sI_at {X : Mx} {a k : Nat} {v : Int32} : (sI X a k v).1 a = upd (X.1 a) k v := by
  funext j; simp [sI, upd]
theorem sI_get {X : Mx} {a k j : Nat} {v : Int32} : (sI X a k v).1 a j = if j = k then v else X.1 a j := by simp [sI]
theorem sJ_ne {X : Mx} {a b k : Nat} {v : Int64} (h : b ≠ a) : (sJ X a k v).2 b = X.2 b := by
  funext j; simp [sJ, h]
theorem sJ_at {X : Mx} {a k : Nat} {v : Int64} : (sJ X a k v).2 a = vp_updL (X.2 a) k v := by
  funext j; simp [sJ, vp_updL]
theorem put_obj {g : Gp} {σ : Sh} {X X' : Mx} {a ci k : Nat} {v : Value} (h : shK σ a = ci) (hc : ci < 9) (hne : ∀ b, b ≠ a → X.1 b = X'.1 b ∧ X.2 b = X'.2 b) (hv : fval (fT ci k) (X'.1 a k) (shR σ a k) (X'.2 a k) = v) (ho : ∀ j, j ≠ k → X'.1 a j = X.1 a j ∧ X'.2 a j = X.2 a j) :
    ∀ b, va_up (cE g σ X) a (.inr (ci, (flds σ X a).set k v)) b = cE g σ X' b := by
  intro b
  unfold va_up
  by_cases hb : b = a
  · subst hb
    rw [if_pos rfl, cE_obj h hc]
    congr 2
    subst h
    apply List.ext_getElem?
    intro j
    rw [List.getElem?_set]
    by_cases hj : k = j
    · subst hj
      rw [if_pos rfl, flds_len]
      by_cases hl : k < fN (shK σ b)
      · rw [if_pos hl, flds_get hl, hv]
      · rw [if_neg hl]; simp [flds, hl]
    · rw [if_neg hj]
      have := ho j (fun q => hj q.symm)
      by_cases hl : j < fN (shK σ b)
      · rw [flds_get hl, flds_get hl, this.1, this.2]
      · simp [flds, hl]
  · rw [if_neg hb]
    exact cE_same (hne b hb).1 (hne b hb).2
theorem put_arr {g : Gp} {σ : Sh} {X X' : Mx} {a : Nat} {e : va_E} (hne : ∀ b, b ≠ a → X.1 b = X'.1 b ∧ X.2 b = X'.2 b) (he : e = cE g σ X' a) : ∀ b, va_up (cE g σ X) a e b = cE g σ X' b := by
  intro b
  unfold va_up
  by_cases hb : b = a
  · subst hb; rw [if_pos rfl, he]
  · rw [if_neg hb]; exact cE_same (hne b hb).1 (hne b hb).2
def jushr (x y : Int32) : Int32 := (x.toUInt32 >>> (y.toUInt32 &&& Int32.toUInt32 31)).toInt32
def stB {ρ : Type} (σ : Sh) (X : Mx) (kd a : Nat) (i v : Int32) (cont : Mx → Option ρ) : Option ρ := if shK σ a = kd ∧ ¬ (i < 0 ∨ shN σ a ≤ i.toNatClampNeg) then cont (sI X a i.toNatClampNeg v.toInt8.toInt32) else none
/-- System.arraycopy between two int arrays -/
def cpX (X : Mx) (src sp dst dp n : Nat) : Mx := (fun b j => if b = dst then va_cpy (X.1 src) (X.1 dst) sp dp n j else X.1 b j, X.2)
def cpA {ρ : Type} (σ : Sh) (X : Mx) (src : Nat) (sp : Int32) (dst : Nat) (dp n : Int32) (cont : Mx → Option ρ) : Option ρ :=
  if (shK σ src = 10 ∧ shK σ dst = 10) ∧ (¬ sp < 0 ∧ ¬ dp < 0 ∧ ¬ n < 0) ∧ sp.toNatClampNeg + n.toNatClampNeg ≤ shN σ src ∧ dp.toNatClampNeg + n.toNatClampNeg ≤ shN σ dst then cont (cpX X src sp.toNatClampNeg dst dp.toNatClampNeg n.toNatClampNeg) else none
theorem zb {v : Int32} (h : v = 0 ∨ v = 1) : narrow .boolean (.int v) = .int v := by rcases h with rfl | rfl <;> rfl
theorem rt_T {α : Type} {v r : α} {X : Mx} (h : v = r) : (r, X) = (v, X) := by rw [h]
theorem rt_R {α : Type} {v r : α} {X : Mx} (h : some v = some r) : (r, X) = (v, X) := by rw [Option.some.inj h]
/-- a switch's default: x is none of lo .. lo + n -/
def swA (x : Int32) (lo n : Nat) : Prop := ∀ k : Nat, k ≤ n → x ≠ Int32.ofNat (lo + k)
theorem sw_0 {x : Int32} {lo : Nat} (h : ¬ x = Int32.ofNat lo) : swA x lo 0 := fun k hk => by
  obtain rfl : k = 0 := by omega
  exact h
theorem sw_s {x : Int32} {lo n : Nat} (h : ¬ x = Int32.ofNat (lo + (n + 1))) (h0 : swA x lo n) : swA x lo (n + 1) := fun k hk => by
  rcases Nat.lt_or_ge k (n + 1) with q | q
  · exact h0 k (by omega)
  · obtain rfl : k = n + 1 := by omega
    exact h
theorem sw_out {x : Int32} {lo n : Nat} (h : swA x lo n) (hn : lo + n < 2 ^ 31) : x.toInt < (lo : Int) ∨ ((lo + n : Nat) : Int) < x.toInt := by
  by_cases h1 : x.toInt < (lo : Int)
  · exact Or.inl h1
  · refine Or.inr ?_
    apply Int.not_le.mp
    intro h2
    refine h (x.toInt.toNat - lo) (by omega) ?_
    apply Int32.toInt_inj.mp
    rw [show lo + (x.toInt.toNat - lo) = x.toInt.toNat by omega]
    have e := nI_toInt (n := x.toInt.toNat) (by omega)
    unfold nI at e
    rw [e]
    omega
theorem r_brn {α : Type} {P : Prop} [Decidable P] {A B r : α} {W0 W1 W2 : Prop} (h : (if P then A else B) = r) (k : (¬ P → W1) → (P → W2) → W0) (kt : B = r → W1) (kf : A = r → W2) : W0 :=
  k (fun hp => kt (by rw [if_neg hp] at h; exact h)) (fun hp => kf (by rw [if_pos hp] at h; exact h))
theorem r_case {α : Type} {P : Prop} [Decidable P] {A B r : α} {W0 : Prop} (h : (if P then A else B) = r) (kt : P → A = r → W0) (kf : ¬ P → B = r → W0) : W0 := by
  by_cases hp : P
  · exact kt hp (by rw [if_pos hp] at h; exact h)
  · exact kf hp (by rw [if_neg hp] at h; exact h)
theorem va_S.here {A : Nat → Prop} {H0 H : Heap} {locs : List Loc} (h : va_S A H0 H locs) : va_S A H H locs := ⟨Nat.le_refl _, fun _ _ _ => rfl, h.2.2⟩
theorem va_S.on {A : Nat → Prop} {H0 H H1 : Heap} {locs locs1 : List Loc} (h : va_S A H0 H locs) (h1 : va_S A H H1 locs1) : va_S A H0 H1 locs1 := ⟨Nat.le_trans h.1 h1.1, fun q a b => (h1.2.1 q (Nat.lt_of_lt_of_le a h.1) b).trans (h.2.1 q a b), h1.2.2⟩
section ROWS
variable {p : Program} {l : Launch} {e : Env} {R : Room} {s : State} {m : MethodId} {args : Array Value} {below : List Frame} {meth : Method} {c : Code} {H : Heap} {locs : List Loc} {cells slots : Nat} {Q : State → Prop}
variable {g : Gp} {own : String} {cc : ByteArray} {nL : Nat} {rt : Option FieldType} {σ : Sh} {X : Mx} {pc : Nat} {ls : Array Slot} {rest : List Value} {ρ : Type} {r : ρ}
theorem Cx.x (C : Cx g own cc nL rt p s m args meth c) : p.tables.exec = Jvm.exec := C.1.1
theorem Cx.b (C : Cx g own cc nL rt p s m args meth c) : c.code = cc := C.1.2.1
/-- a branch: both ways of the function go with both ways of the machine -/
theorem r_br {α : Type} {P : Prop} [Decidable P] {A B r : α} {W0 W1 W2 : Prop} (h : (if P then A else B) = r) (k : (P → W1) → (¬ P → W2) → W0) (kt : A = r → W1) (kf : B = r → W2) : W0 :=
  k (fun hp => kt (by rw [if_pos hp] at h; exact h)) (fun hp => kf (by rw [if_neg hp] at h; exact h))
theorem r_gI (C : Cx g own cc nL rt p s m args meth c) (hW : Wd g σ X s H locs) {a k ci idx : Nat} {cont : Int32 → Option ρ} (h : ldI σ X ci a k cont = some r) (hf : fOK own idx ci k 0) (hc : ci < 9) (hdg : decode cc pc = .ok (.getfield idx, 3))
    (kk : ∀ x, cont x = some r → W p l e R s m args below meth c H locs cells slots Q (F0 m (pc + 3) ls (.int x :: rest))) : W p l e R s m args below meth c H locs cells slots Q (F0 m pc ls (.ref a :: rest)) := by
  obtain ⟨hK, h⟩ := if_inv h
  obtain ⟨⟨hx, hb, hml, hown, hts⟩, hKK, -, -, -⟩ := C
  obtain ⟨hP, hD, hS, hO⟩ := hW
  obtain ⟨⟨C, T, N⟩, h1, h2, h3, h4, h5, h6⟩ := hf
  obtain ⟨kq, hkq⟩ := pool_get (g := g) (X := X) hO (show shK σ a < 13 by omega)
  rw [cE_obj hK hc] at hkq
  have hk : k < fN (shK σ a) := by rw [hK, ← h3]; exact h2
  refine va_get (v := .int (X.1 a k)) hx hb hts h6 hown hKK hP kq hkq h1 k h2 (hts _ h5) (fun _ h9 => h9) ?_ hdg (kk _ h)
  rw [flds_get hk, hK, h4]; rfl
theorem r_gJ (C : Cx g own cc nL rt p s m args meth c) (hW : Wd g σ X s H locs) {a k ci idx : Nat} {cont : Int64 → Option ρ} (h : ldJ σ X ci a k cont = some r) (hf : fOK own idx ci k 2) (hc : ci < 9) (hdg : decode cc pc = .ok (.getfield idx, 3))
    (kk : ∀ x, cont x = some r → W p l e R s m args below meth c H locs cells slots Q (F0 m (pc + 3) ls (.long x :: rest))) : W p l e R s m args below meth c H locs cells slots Q (F0 m pc ls (.ref a :: rest)) := by
  obtain ⟨hK, h⟩ := if_inv h
  obtain ⟨⟨hx, hb, hml, hown, hts⟩, hKK, -, -, -⟩ := C
  obtain ⟨hP, hD, hS, hO⟩ := hW
  obtain ⟨⟨C, T, N⟩, h1, h2, h3, h4, h5, h6⟩ := hf
  obtain ⟨kq, hkq⟩ := pool_get (g := g) (X := X) hO (show shK σ a < 13 by omega)
  rw [cE_obj hK hc] at hkq
  have hk : k < fN (shK σ a) := by rw [hK, ← h3]; exact h2
  refine va_get (v := .long (X.2 a k)) hx hb hts h6 hown hKK hP kq hkq h1 k h2 (hts _ h5) (fun _ h9 => h9) ?_ hdg (kk _ h)
  rw [flds_get hk, hK, h4]; rfl
theorem r_gR (C : Cx g own cc nL rt p s m args meth c) (hW : Wd g σ X s H locs) {a k ci idx : Nat} {cont : Nat → Option ρ} (h : ldR σ ci a k cont = some r) (hf : fOK own idx ci k 1) (hc : ci < 9) (hdg : decode cc pc = .ok (.getfield idx, 3))
    (kk : ∀ x, cont x = some r → W p l e R s m args below meth c H locs cells slots Q (F0 m (pc + 3) ls (.ref x :: rest))) : W p l e R s m args below meth c H locs cells slots Q (F0 m pc ls (.ref a :: rest)) := by
  obtain ⟨hK, h⟩ := if_inv h
  obtain ⟨z, hz, h⟩ := bnd_inv h
  obtain ⟨⟨hx, hb, hml, hown, hts⟩, hKK, -, -, -⟩ := C
  obtain ⟨hP, hD, hS, hO⟩ := hW
  obtain ⟨⟨C, T, N⟩, h1, h2, h3, h4, h5, h6⟩ := hf
  obtain ⟨kq, hkq⟩ := pool_get (g := g) (X := X) hO (show shK σ a < 13 by omega)
  rw [cE_obj hK hc] at hkq
  have hk : k < fN (shK σ a) := by rw [hK, ← h3]; exact h2
  refine va_get (v := .ref z) hx hb hts h6 hown hKK hP kq hkq h1 k h2 (hts _ h5) (fun _ h9 => h9) ?_ hdg (kk _ h)
  rw [flds_get hk, hK, h4, hz]; rfl
theorem r_pI (C : Cx g own cc nL rt p s m args meth c) (hW : Wd g σ X s H locs) {a k ci idx : Nat} {v : Int32} {ty : FieldType} {cont : Mx → Option ρ} (h : stI σ X ci a k v cont = some r) (hf : pOK own idx ci k 0 ty) (hc : ci < 9) (hn : narrow ty (.int v) = .int v) (hfit : fits ty (.int v) = true) (hdg : decode cc pc = .ok (.putfield idx, 3))
    (kk : ∀ X' H1 locs1, cont X' = some r → Wd g σ X' s H1 locs1 → H.size ≤ H1.size → W p l e R s m args below meth c H1 locs1 cells slots Q (F0 m (pc + 3) ls rest)) : W p l e R s m args below meth c H locs cells slots Q (F0 m pc ls (.int v :: .ref a :: rest)) := by
  obtain ⟨hK, h⟩ := if_inv h
  obtain ⟨⟨hx, hb, hml, hown, hts⟩, hKK, -, -, -⟩ := C
  obtain ⟨hP, hD, hS, hO⟩ := hW
  obtain ⟨⟨C, T, N⟩, ty0, h1, h2, h3, h4, h5, h6, h7, h8, h9, h10⟩ := hf
  obtain ⟨kq, hkq⟩ := pool_get (g := g) (X := X) hO (show shK σ a < 13 by omega)
  have hkq0 := hkq
  rw [cE_obj hK hc] at hkq
  have hk : k < fN (shK σ a) := by rw [hK, ← h3]; exact h2
  subst h10
  refine va_put (v := .int v) hx hb hts h6 ty0 h7 h8 hown hKK hP hD (va_S.here hS) kq hkq h1 k h2 (hts _ h5) (fun _ h9 => h9) h9 (h7 k h2) hn hfit (by rw [flds_len]; exact hk) hdg (fun H1 locs1 hP hD hS1 => ?_)
  have hset := pool_set (X' := sI X a k v) (e := .inr (ci, (flds σ X a).set k (.int v))) ‹va_D (gA g) (pool g σ X)› hO (show shK σ a < 13 by omega) hkq0 (put_obj hK hc (fun b hb => ⟨(sI_ne hb).symm, rfl⟩) (by rw [h4, sI_get, if_pos rfl]; rfl) (fun j hj => ⟨by rw [sI_get, if_neg hj], rfl⟩))
  rw [hset] at hP hD
  exact kk _ _ _ h ⟨hP, hD, hS.on hS1, hO⟩ hS1.1
theorem r_pJ (C : Cx g own cc nL rt p s m args meth c) (hW : Wd g σ X s H locs) {a k ci idx : Nat} {v : Int64} {cont : Mx → Option ρ} (h : stJ σ X ci a k v cont = some r) (hf : pOK own idx ci k 2 .long) (hc : ci < 9) (hdg : decode cc pc = .ok (.putfield idx, 3))
    (kk : ∀ X' H1 locs1, cont X' = some r → Wd g σ X' s H1 locs1 → H.size ≤ H1.size → W p l e R s m args below meth c H1 locs1 cells slots Q (F0 m (pc + 3) ls rest)) : W p l e R s m args below meth c H locs cells slots Q (F0 m pc ls (.long v :: .ref a :: rest)) := by
  obtain ⟨hK, h⟩ := if_inv h
  obtain ⟨⟨hx, hb, hml, hown, hts⟩, hKK, -, -, -⟩ := C
  obtain ⟨hP, hD, hS, hO⟩ := hW
  obtain ⟨⟨C, T, N⟩, ty0, h1, h2, h3, h4, h5, h6, h7, h8, h9, h10⟩ := hf
  obtain ⟨kq, hkq⟩ := pool_get (g := g) (X := X) hO (show shK σ a < 13 by omega)
  have hkq0 := hkq
  rw [cE_obj hK hc] at hkq
  have hk : k < fN (shK σ a) := by rw [hK, ← h3]; exact h2
  refine va_put (v := .long v) (ty := .long) hx hb hts h6 ty0 h7 h8 hown hKK hP hD (va_S.here hS) kq hkq h1 k h2 (hts _ h5) (fun _ h9 => h9) h9 (by rw [h7 k h2, h10]) rfl rfl (by rw [flds_len]; exact hk) hdg (fun H1 locs1 hP hD hS1 => ?_)
  have hset := pool_set (X' := sJ X a k v) (e := .inr (ci, (flds σ X a).set k (.long v))) ‹va_D (gA g) (pool g σ X)› hO (show shK σ a < 13 by omega) hkq0 (put_obj hK hc (fun b hb => ⟨rfl, (sJ_ne hb).symm⟩) (by rw [h4]; simp [fval, sJ]) (fun j hj => ⟨rfl, by simp [sJ, hj]⟩))
  rw [hset] at hP hD
  exact kk _ _ _ h ⟨hP, hD, hS.on hS1, hO⟩ hS1.1
theorem r_iald (C : Cx g own cc nL rt p s m args meth c) (hW : Wd g σ X s H locs) {a : Nat} {i : Int32} {cont : Int32 → Option ρ} (h : ldA σ X 10 a i cont = some r) (hdg : decode cc pc = .ok (.iaload, 1))
    (kk : ∀ x, cont x = some r → W p l e R s m args below meth c H locs cells slots Q (F0 m (pc + 1) ls (.int x :: rest))) : W p l e R s m args below meth c H locs cells slots Q (F0 m pc ls (.int i :: .ref a :: rest)) := by
  obtain ⟨⟨hK, hi⟩, h⟩ := if_inv h
  obtain ⟨⟨hx, hb, hml, hown, hts⟩, hKK, -, -, -⟩ := C
  obtain ⟨hP, hD, hS, hO⟩ := hW
  obtain ⟨kq, hkq⟩ := pool_get (g := g) (X := X) hO (show shK σ a < 13 by omega)
  rw [cE_i hK] at hkq
  exact va_iald hx hb hKK hP kq 1 hkq rfl hi hdg (kk _ h)
theorem r_bald (C : Cx g own cc nL rt p s m args meth c) (hW : Wd g σ X s H locs) {a : Nat} {i : Int32} {cont : Int32 → Option ρ} (h : ldA σ X 9 a i cont = some r) (hdg : decode cc pc = .ok (.baload, 1))
    (kk : ∀ x, cont x = some r → W p l e R s m args below meth c H locs cells slots Q (F0 m (pc + 1) ls (.int x :: rest))) : W p l e R s m args below meth c H locs cells slots Q (F0 m pc ls (.int i :: .ref a :: rest)) := by
  obtain ⟨⟨hK, hi⟩, h⟩ := if_inv h
  obtain ⟨⟨hx, hb, hml, hown, hts⟩, hKK, -, -, -⟩ := C
  obtain ⟨hP, hD, hS, hO⟩ := hW
  obtain ⟨kq, hkq⟩ := pool_get (g := g) (X := X) hO (show shK σ a < 13 by omega)
  rw [cE_b hK] at hkq
  exact va_bald hx hb hKK hP kq 0 hkq rfl hi hdg (kk _ h)
theorem r_iast (C : Cx g own cc nL rt p s m args meth c) (hW : Wd g σ X s H locs) {a : Nat} {i v : Int32} {cont : Mx → Option ρ} (h : stA σ X 10 a i v cont = some r) (hdg : decode cc pc = .ok (.iastore, 1))
    (kk : ∀ X' H1 locs1, cont X' = some r → Wd g σ X' s H1 locs1 → H.size ≤ H1.size → W p l e R s m args below meth c H1 locs1 cells slots Q (F0 m (pc + 1) ls rest)) : W p l e R s m args below meth c H locs cells slots Q (F0 m pc ls (.int v :: .int i :: .ref a :: rest)) := by
  obtain ⟨⟨hK, hi⟩, h⟩ := if_inv h
  obtain ⟨⟨hx, hb, hml, hown, hts⟩, hKK, -, -, -⟩ := C
  obtain ⟨hP, hD, hS, hO⟩ := hW
  obtain ⟨kq, hkq⟩ := pool_get (g := g) (X := X) hO (show shK σ a < 13 by omega)
  have hkq0 := hkq
  rw [cE_i hK] at hkq
  refine va_iast hx hb hKK hP hD (va_S.here hS) kq 1 hkq rfl hi hdg (fun H1 locs1 hP hD hS1 => ?_)
  have hset := pool_set (X' := sI X a i.toNatClampNeg v) (e := .inl (g.2.1.2.1, shN σ a, .inl (upd (X.1 a) i.toNatClampNeg v))) ‹va_D (gA g) (pool g σ X)› hO (show shK σ a < 13 by omega) hkq0 (put_arr (fun b hb => ⟨(sI_ne hb).symm, rfl⟩) (by rw [cE_i hK, sI_at]))
  rw [hset] at hP hD
  exact kk _ _ _ h ⟨hP, hD, hS.on hS1, hO⟩ hS1.1
theorem r_alenI (C : Cx g own cc nL rt p s m args meth c) (hW : Wd g σ X s H locs) {a : Nat} {cont : Int32 → Option ρ} (h : lenA σ 10 a cont = some r) (hdg : decode cc pc = .ok (.arraylength, 1))
    (kk : ∀ x, cont x = some r → W p l e R s m args below meth c H locs cells slots Q (F0 m (pc + 1) ls (.int x :: rest))) : W p l e R s m args below meth c H locs cells slots Q (F0 m pc ls (.ref a :: rest)) := by
  obtain ⟨hK, h⟩ := if_inv h
  obtain ⟨⟨hx, hb, hml, hown, hts⟩, hKK, -, -, -⟩ := C
  obtain ⟨hP, hD, hS, hO⟩ := hW
  obtain ⟨kq, hkq⟩ := pool_get (g := g) (X := X) hO (show shK σ a < 13 by omega)
  rw [cE_i hK] at hkq
  exact va_alen hx hb hKK hP kq 1 hkq (ty := .int) rfl rfl hdg (kk _ h)
theorem r_bast (C : Cx g own cc nL rt p s m args meth c) (hW : Wd g σ X s H locs) {a : Nat} {i v : Int32} {cont : Mx → Option ρ} (h : stB σ X 9 a i v cont = some r) (hdg : decode cc pc = .ok (.bastore, 1))
    (kk : ∀ X' H1 locs1, cont X' = some r → Wd g σ X' s H1 locs1 → H.size ≤ H1.size → W p l e R s m args below meth c H1 locs1 cells slots Q (F0 m (pc + 1) ls rest)) : W p l e R s m args below meth c H locs cells slots Q (F0 m pc ls (.int v :: .int i :: .ref a :: rest)) := by
  obtain ⟨⟨hK, hi⟩, h⟩ := if_inv h
  obtain ⟨⟨hx, hb, hml, hown, hts⟩, hKK, -, -, -⟩ := C
  obtain ⟨hP, hD, hS, hO⟩ := hW
  obtain ⟨kq, hkq⟩ := pool_get (g := g) (X := X) hO (show shK σ a < 13 by omega)
  have hkq0 := hkq
  rw [cE_b hK] at hkq
  refine va_bast hx hb hKK hP hD (va_S.here hS) kq 0 hkq rfl hi hdg (fun H1 locs1 hP hD hS1 => ?_)
  rw [vp_nar_byte] at hP hD
  have hset := pool_set (X' := sI X a i.toNatClampNeg v.toInt8.toInt32) (e := .inl (g.2.1.1, shN σ a, .inl (upd (X.1 a) i.toNatClampNeg v.toInt8.toInt32))) ‹va_D (gA g) (pool g σ X)› hO (show shK σ a < 13 by omega) hkq0 (put_arr (fun b hb => ⟨(sI_ne hb).symm, rfl⟩) (by rw [cE_b hK, sI_at]))
  rw [hset] at hP hD
  exact kk _ _ _ h ⟨hP, hD, hS.on hS1, hO⟩ hS1.1
theorem r_copy (C : Cx g own cc nL rt p s m args meth c) (hW : Wd g σ X s H locs) {src dst idx : Nat} {sp dp n : Int32} {cont : Mx → Option ρ} (h : cpA σ X src sp dst dp n cont = some r) (hlk : Cond.methodLink own idx arraycopyName ∈ TB) (hfr : 1 ≤ R.frames) (hlo : (rest.map fun v => v.category).sum + 18 ≤ R.locals) (hls : ls.size = nL) (hdg : decode cc pc = .ok (.invokestatic idx, 3))
    (kk : ∀ X' H1 locs1, cont X' = some r → Wd g σ X' s H1 locs1 → H.size ≤ H1.size → W p l e R s m args below meth c H1 locs1 cells slots Q (F0 m (pc + 3) ls rest)) : W p l e R s m args below meth c H locs cells slots Q (F0 m pc ls (.int n :: .int dp :: .ref dst :: .int sp :: .ref src :: rest)) := by
  obtain ⟨⟨⟨hK0, hK1⟩, ⟨h1, h2, h3⟩, h4, h5⟩, h⟩ := if_inv h
  obtain ⟨⟨hx, hb, hml, hown, hts⟩, hKK, -, -, -⟩ := C
  obtain ⟨hP, hD, hS, hO⟩ := hW
  obtain ⟨k0, hk0⟩ := pool_get (g := g) (X := X) hO (show shK σ src < 13 by omega)
  obtain ⟨k1, hk1⟩ := pool_get (g := g) (X := X) hO (show shK σ dst < 13 by omega)
  have hkq0 := hk1
  rw [cE_i hK0] at hk0
  rw [cE_i hK1] at hk1
  refine va_copyi hx hb (hml.trans hls.symm) hown (hts _ hlk) (hts _ cp_nat) (hts _ cp_st) (hts _ cp_in) hKK hP hD (va_S.here hS) k0 k1 1 1 hk0 hk1 rfl rfl rfl h1 h2 h3 h4 h5 (fun i hi => rfl) hfr (by show _ + (7 + 11) ≤ _; exact hlo) hdg (fun H1 locs1 hP hD hS1 => ?_)
  have hset := pool_set (X' := cpX X src sp.toNatClampNeg dst dp.toNatClampNeg n.toNatClampNeg) (e := .inl (g.2.1.2.1, shN σ dst, .inl (va_cpy (X.1 src) (X.1 dst) sp.toNatClampNeg dp.toNatClampNeg n.toNatClampNeg))) ‹va_D (gA g) (pool g σ X)› hO (show shK σ dst < 13 by omega) hkq0 (put_arr (fun b hb => ⟨by funext j; simp [cpX, hb], rfl⟩) (by rw [cE_i hK1]; refine congrArg (fun z => Sum.inl (g.2.1.2.1, shN σ dst, Sum.inl z)) ?_; funext j; simp [cpX]))
  rw [hset] at hP hD
  exact kk _ _ _ h ⟨hP, hD, hS.on hS1, hO⟩ hS1.1
end ROWS
/-! ===== contracts of methods that make nothing and change numbers alone ===== -/
abbrev rmZ (fr lo : Nat) : Room := { frames := fr, cells := 0, slots := 0, locals := lo }
def MtI (g : Gp) (l : Launch) (y : MethodName) (cy : ByteArray) (nL : Nat) (rt : Option FieldType) (fr lo : Nat) (av : List Value) (σ : Sh) (X : Mx) (r : Int32 × Mx) : Prop :=
  Met l y (Cond.code y cy nL rt :: TB) (rmZ fr lo) (va_Pc av (Rp g σ X)) (va_Qi (fun v u => v = r.1 ∧ u = r.2) (fun u t => Rp g σ u t) (gA g)) 0 0 (gA g)
def MtL (g : Gp) (l : Launch) (y : MethodName) (cy : ByteArray) (nL : Nat) (rt : Option FieldType) (fr lo : Nat) (av : List Value) (σ : Sh) (X : Mx) (r : Int64 × Mx) : Prop :=
  Met l y (Cond.code y cy nL rt :: TB) (rmZ fr lo) (va_Pc av (Rp g σ X)) (va_Ql (fun v u => v = r.1 ∧ u = r.2) (fun u t => Rp g σ u t) (gA g)) 0 0 (gA g)
def MtV (g : Gp) (l : Launch) (y : MethodName) (cy : ByteArray) (nL : Nat) (rt : Option FieldType) (fr lo : Nat) (av : List Value) (σ : Sh) (X : Mx) (r : Mx) : Prop :=
  Met l y (Cond.code y cy nL rt :: TB) (rmZ fr lo) (va_Pc av (Rp g σ X)) (va_Qv (fun u => u = r) (fun u t => Rp g σ u t) (gA g)) 0 0 (gA g)
def MtR (g : Gp) (l : Launch) (y : MethodName) (cy : ByteArray) (nL : Nat) (rt : Option FieldType) (fr lo : Nat) (av : List Value) (σ : Sh) (X : Mx) (r : Nat × Mx) : Prop :=
  Met l y (Cond.code y cy nL rt :: TB) (rmZ fr lo) (va_Pc av (Rp g σ X)) (va_Qr (fun u => u = r.2) (fun u a t => a = r.1 ∧ Rp g σ u t) (gA g)) 0 0 (gA g)
abbrev QI (g : Gp) (σ : Sh) (below : List Frame) (args : Array Value) (s : State) (r : Int32 × Mx) : State → Prop := MQ below (va_Qi (fun v u => v = r.1 ∧ u = r.2) (fun u t => Rp g σ u t) (gA g)) args s 0 0 (gA g)
abbrev QL (g : Gp) (σ : Sh) (below : List Frame) (args : Array Value) (s : State) (r : Int64 × Mx) : State → Prop := MQ below (va_Ql (fun v u => v = r.1 ∧ u = r.2) (fun u t => Rp g σ u t) (gA g)) args s 0 0 (gA g)
abbrev QV (g : Gp) (σ : Sh) (below : List Frame) (args : Array Value) (s : State) (r : Mx) : State → Prop := MQ below (va_Qv (fun u => u = r) (fun u t => Rp g σ u t) (gA g)) args s 0 0 (gA g)
abbrev QR (g : Gp) (σ : Sh) (below : List Frame) (args : Array Value) (s : State) (r : Nat × Mx) : State → Prop := MQ below (va_Qr (fun u => u = r.2) (fun u a t => a = r.1 ∧ Rp g σ u t) (gA g)) args s 0 0 (gA g)
theorem rp_blind {av : List Value} {g : Gp} {σ : Sh} {X : Mx} : FrameBlind (va_Pc av (Rp g σ X)) := fun a U gf mk q => ⟨q.1, q.2.1, va_K.moved (u := U) (U := U.calling gf mk a) (Vm.Alike.refl U.vm) q.2.2.1, q.2.2.2.1, q.2.2.2.2.1, q.2.2.2.2.2.1, Sc.same (u := U) (U := U.calling gf mk a) (Vm.Alike.refl U.vm) rfl (fun _ _ _ => rfl) q.2.2.2.2.2.2⟩
theorem tb_code {y : MethodName} {cy : ByteArray} {nL : Nat} {rt : Option FieldType} (h : Cond.code y cy nL rt ∈ TB) : GoodIn TB (Cond.code y cy nL rt :: TB) := fun w hw => by
  have h1 : w ∈ TB := by rcases List.mem_cons.mp hw with q | q; · rw [q]; exact h
                         · exact q
  exact ⟨h1, good_of_word (List.mem_filter.mp h1).2⟩
/-- a contract out of a walk, the method plainly named -/
theorem metW {l : Launch} {y : MethodName} {ws ws' : List Cond} {rm : Room} {Pc : Array Value → State → Prop} {Qc : Array Value → State → Outcome → State → Prop} {mc ms : Nat} {free : Addr → Prop} {cc : ByteArray} {maxL : Nat} {ret : Option FieldType}
    (hy : plainFor y = true) (hw : ws = Cond.code y cc maxL ret :: ws')
    (body : ∀ p e s m args below meth c s₁, BodyLoose p l y (headSpec ws rm) cc maxL ret e s m args below meth c s₁ → c.maxLocals = maxL → Pc args s →
      W p l e (headSpec ws rm).room s m args below meth c s.heap [] 0 0 (MQ below Qc args s mc ms free) (entryFrame m args maxL)) : Met l y ws rm Pc Qc mc ms free := by
  refine MetFree.of_bodySF (code := cc) (maxLocals := maxL) (ret := ret) hy ?_ ?_
  · intro args s m h hn
    obtain ⟨meth, c, h1, h2, h3, h4, h5, h6, -, -⟩ := Cond.code_spec hn (atoms_spec (ws := ws) h _ (by rw [hw]; exact List.mem_cons_self))
    exact ⟨meth, c, h1, h2, h3, h4, h5, h6⟩
  · intro p e s m args below meth c s₁ B hml hP _
    have hh0 : s₁.heap = s.heap := by rw [B.state]; rfl
    obtain ⟨t, a1, o, b1, b2, b3⟩ := body p e s m args below meth c s₁ B hml hP s₁ hh0 (Stand.of_body B)
    exact ⟨t, o, a1, b1, b2, ⟨b3.1, b3.2⟩⟩
section CALLS
variable {p : Program} {l : Launch} {e : Env} {R : Room} {s : State} {m : MethodId} {args : Array Value} {below : List Frame} {meth : Method} {c : Code} {H : Heap} {locs : List Loc} {cells slots : Nat} {Q : State → Prop}
variable {g : Gp} {own : String} {cc : ByteArray} {nL : Nat} {rt : Option FieldType} {σ : Sh} {X : Mx} {pc : Nat} {ls : Array Slot} {rest st0 As : List Value}
variable {y : MethodName} {cy : ByteArray} {nLy fr lo idx n b ci : Nat} {rty : Option FieldType} {q : vw_C}
theorem rp_pre (C : Cx g own cc nL rt p s m args meth c) (hW : Wd g σ X s H locs) {av : List Value} : ∀ U : State, U.heap = H → s.WarmedH U.vm → va_Pc av (Rp g σ X) av.toArray U := fun U hU hw =>
  ⟨rfl, by rw [hU]; exact hW.1, va_K.moved hw.alike C.2.1, hW.2.1, by rw [hU]; exact Nat.le_trans C.2.2.1 hW.2.2.1.1, hW.2.2.2, Sc.warm hw (fun a h1 h2 => by rw [hU]; exact hW.2.2.1.2.1 a h1 h2) C.2.2.2.2.2⟩
/-- a virtual call, as a run -/
theorem run_V (C : Cx g own cc nL rt p s m args meth c) (hW : Wd g σ X s H locs) {Qc : Array Value → State → Outcome → State → Prop} (hM : Met l y (Cond.code y cy nLy rty :: TB) (rmZ fr lo) (va_Pc (.ref b :: As) (Rp g σ X)) Qc 0 0 (gA g)) (hm : mOK y cy nLy rty n) (hv : vOK own idx y) (hb : shK σ b = ci) (hc : vwCl[ci]? = some q) (hq : q.1 = y.cls) (h9 : ci < 9) (hR : fr + 1 ≤ R.frames ∧ 8 + (nLy + 11) + lo ≤ R.locals) (hcs : cells ≤ R.cells ∧ slots ≤ R.slots) (hn : As.length = n) (hst : st0 = As.reverse ++ .ref b :: rest) (hsz : (rest.map fun v => v.category).sum ≤ 8) (hls : ls.size = nL) (hdg : decode cc pc = .ok (.invokevirtual idx, 3)) :
    va_Run p l e R s m args below meth c H locs cells slots 0 0 (F0 m pc ls st0) rest (Qc (Value.ref b :: As).toArray) (gA g) := by
  have hts := C.1.2.2.2.2
  obtain ⟨h1, h2, h3, h4⟩ := hm
  obtain ⟨v1, v2, v3⟩ := hv
  obtain ⟨kq, hkq⟩ := pool_get (g := g) (X := X) hW.2.2.2 (show shK σ b < 13 by omega)
  rw [cE_obj hb h9] at hkq
  have hrv := va_recv C.2.1 hW.1 hc hkq
  rw [hq] at hrv
  exact va_runV (C := y.cls) (As := As) C.1 hM ⟨callB_of n hts (tb_code h1) rfl rfl rfl (hts _ h4) (hts _ v1) h3 hR, hts _ v2, hts _ v3⟩ ⟨rp_blind, hrv, rp_pre C hW⟩ rfl hn hls hst (lv_room hsz) hdg ⟨hcs.1, hcs.2⟩
theorem run_S (C : Cx g own cc nL rt p s m args meth c) (hW : Wd g σ X s H locs) {Qc : Array Value → State → Outcome → State → Prop} (hM : Met l y (Cond.code y cy nLy rty :: TB) (rmZ fr lo) (va_Pc As (Rp g σ X)) Qc 0 0 (gA g)) (hm : mOK y cy nLy rty n) (hv : sOK own idx y) (hR : fr + 1 ≤ R.frames ∧ 8 + (nLy + 11) + lo ≤ R.locals) (hcs : cells ≤ R.cells ∧ slots ≤ R.slots) (hn : As.length = n) (hst : st0 = As.reverse ++ rest) (hsz : (rest.map fun v => v.category).sum ≤ 8) (hls : ls.size = nL) (hdg : decode cc pc = .ok (.invokestatic idx, 3)) :
    va_Run p l e R s m args below meth c H locs cells slots 0 0 (F0 m pc ls st0) rest (Qc As.toArray) (gA g) := by
  have hts := C.1.2.2.2.2
  obtain ⟨h1, h2, h3, h4⟩ := hm
  obtain ⟨v1, v2⟩ := hv
  exact va_runS (As := As) C.1 hM ⟨callB_of n hts (tb_code h1) rfl rfl rfl (hts _ h4) (hts _ v1) h3 hR, hts _ v2⟩ ⟨rp_blind, rp_pre C hW⟩ rfl hn hls hst (lv_room hsz) hdg ⟨hcs.1, hcs.2⟩
theorem r_cI {a : Array Value} {v0 : Int32} {X0 : Mx} (hW : Wd g σ X s H locs) (hr : va_Run p l e R s m args below meth c H locs cells slots 0 0 (F0 m pc ls st0) rest (va_Qi (fun v u => v = (v0, X0).1 ∧ u = (v0, X0).2) (fun u t => Rp g σ u t) (gA g) a) (gA g)) (kk : ∀ H1 locs1, Wd g σ X0 s H1 locs1 → H.size ≤ H1.size → W p l e R s m args below meth c H1 locs1 cells slots Q (F0 m (pc + 3) ls (.int v0 :: rest))) : W p l e R s m args below meth c H locs cells slots Q (F0 m pc ls st0) := by
  refine va_calli hr hW.2.2.1 (fun q _ h => h) (fun q h => h) (fun v u t H1 locs1 ht hvm hw hB hz hk hS => ?_)
  obtain ⟨rfl, rfl⟩ := hw
  obtain ⟨hP1, hK1, hD1, hz1, hO, -⟩ := hB
  rw [ht] at hP1
  exact kk _ _ ⟨hP1, hD1, hS, hO⟩ hz
theorem r_cL {a : Array Value} {v0 : Int64} {X0 : Mx} (hW : Wd g σ X s H locs) (hr : va_Run p l e R s m args below meth c H locs cells slots 0 0 (F0 m pc ls st0) rest (va_Ql (fun v u => v = (v0, X0).1 ∧ u = (v0, X0).2) (fun u t => Rp g σ u t) (gA g) a) (gA g)) (kk : ∀ H1 locs1, Wd g σ X0 s H1 locs1 → H.size ≤ H1.size → W p l e R s m args below meth c H1 locs1 cells slots Q (F0 m (pc + 3) ls (.long v0 :: rest))) : W p l e R s m args below meth c H locs cells slots Q (F0 m pc ls st0) := by
  refine va_calll hr hW.2.2.1 (fun q _ h => h) (fun q h => h) (fun v u t H1 locs1 ht hvm hw hB hz hk hS => ?_)
  obtain ⟨rfl, rfl⟩ := hw
  obtain ⟨hP1, hK1, hD1, hz1, hO, -⟩ := hB
  rw [ht] at hP1
  exact kk _ _ ⟨hP1, hD1, hS, hO⟩ hz
theorem r_cV {a : Array Value} {r : Mx} (hW : Wd g σ X s H locs) (hr : va_Run p l e R s m args below meth c H locs cells slots 0 0 (F0 m pc ls st0) rest (va_Qv (fun u => u = r) (fun u t => Rp g σ u t) (gA g) a) (gA g)) (kk : ∀ H1 locs1, Wd g σ r s H1 locs1 → H.size ≤ H1.size → W p l e R s m args below meth c H1 locs1 cells slots Q (F0 m (pc + 3) ls rest)) : W p l e R s m args below meth c H locs cells slots Q (F0 m pc ls st0) := by
  refine va_callv hr hW.2.2.1 (fun q _ h => h) (fun q h => h) (fun u t H1 locs1 ht hvm hw hB hz hk hS => ?_)
  subst hw
  obtain ⟨hP1, hK1, hD1, hz1, hO, -⟩ := hB
  rw [ht] at hP1
  exact kk _ _ ⟨hP1, hD1, hS, hO⟩ hz
theorem r_cR {a : Array Value} {v0 : Nat} {X0 : Mx} (hW : Wd g σ X s H locs) (hr : va_Run p l e R s m args below meth c H locs cells slots 0 0 (F0 m pc ls st0) rest (va_Qr (fun u => u = (v0, X0).2) (fun u a t => a = (v0, X0).1 ∧ Rp g σ u t) (gA g) a) (gA g)) (kk : ∀ H1 locs1, Wd g σ X0 s H1 locs1 → H.size ≤ H1.size → W p l e R s m args below meth c H1 locs1 cells slots Q (F0 m (pc + 3) ls (.ref v0 :: rest))) : W p l e R s m args below meth c H locs cells slots Q (F0 m pc ls st0) := by
  refine va_callr hr hW.2.2.1 (fun q _ h => h) (fun q h => h) (fun u v t H1 locs1 ht hvm hw hB hz hk hS => ?_)
  subst hw
  obtain ⟨rfl, hP1, hK1, hD1, hz1, hO, -⟩ := hB
  rw [ht] at hP1
  exact kk _ _ ⟨hP1, hD1, hS, hO⟩ hz
/-! returns -/
theorem r_iret {ty : FieldType} (C : Cx g own cc nL (some ty) p s m args meth c) {v : Int32} {r : Int32 × Mx} (hW : Wd g σ X s H locs) (h : r = (v, X)) (hn : narrow ty (.int v) = .int v) (hdg : decode cc pc = .ok (.ireturn, 1)) : W p l e R s m args below meth c H locs 0 0 (QI g σ below args s r) (F0 m pc ls [.int v]) := by
  subst h
  obtain ⟨⟨hx, hb, hml, hown, hts⟩, hK, hg, hr, hlocks, hsc⟩ := C
  obtain ⟨hP, hD, hS, hO⟩ := hW
  exact W.zret hx hb hr hn (fun t ht hw => ⟨⟨v, X, rfl, ⟨rfl, rfl⟩, by rw [ht]; exact hP, va_K.moved hw.alike hK, hD, by rw [ht]; exact Nat.le_trans hg hS.1, hO, Sc.warm hw (fun a h1 h2 => by rw [ht]; exact hS.2.1 a h1 h2) hsc⟩, hS.F ht⟩) hS.2.2 hdg hlocks
theorem r_lret (C : Cx g own cc nL (some .long) p s m args meth c) {v : Int64} {r : Int64 × Mx} (hW : Wd g σ X s H locs) (h : r = (v, X)) (hdg : decode cc pc = .ok (.lreturn, 1)) : W p l e R s m args below meth c H locs 0 0 (QL g σ below args s r) (F0 m pc ls [.long v]) := by
  subst h
  obtain ⟨⟨hx, hb, hml, hown, hts⟩, hK, hg, hr, hlocks, hsc⟩ := C
  obtain ⟨hP, hD, hS, hO⟩ := hW
  exact W.lret hx hb hr (fun t ht hw => ⟨⟨v, X, rfl, ⟨rfl, rfl⟩, by rw [ht]; exact hP, va_K.moved hw.alike hK, hD, by rw [ht]; exact Nat.le_trans hg hS.1, hO, Sc.warm hw (fun a h1 h2 => by rw [ht]; exact hS.2.1 a h1 h2) hsc⟩, hS.F ht⟩) hS.2.2 hdg hlocks
theorem r_vret (C : Cx g own cc nL none p s m args meth c) {r : Mx} (hW : Wd g σ X s H locs) (h : r = X) (hdg : decode cc pc = .ok (.return_, 1)) : W p l e R s m args below meth c H locs 0 0 (QV g σ below args s r) (F0 m pc ls []) := by
  subst h
  obtain ⟨⟨hx, hb, hml, hown, hts⟩, hK, hg, hr, hlocks, hsc⟩ := C
  obtain ⟨hP, hD, hS, hO⟩ := hW
  exact W.vret hx hb hr (fun t ht hw => ⟨⟨r, rfl, rfl, by rw [ht]; exact hP, va_K.moved hw.alike hK, hD, by rw [ht]; exact Nat.le_trans hg hS.1, hO, Sc.warm hw (fun a h1 h2 => by rw [ht]; exact hS.2.1 a h1 h2) hsc⟩, hS.F ht⟩) hS.2.2 hdg hlocks
theorem r_aret {nm : String} (C : Cx g own cc nL (some (.object nm)) p s m args meth c) {v : Nat} {r : Nat × Mx} (hW : Wd g σ X s H locs) (h : r = (v, X)) (hdg : decode cc pc = .ok (.areturn, 1)) : W p l e R s m args below meth c H locs 0 0 (QR g σ below args s r) (F0 m pc ls [.ref v]) := by
  subst h
  obtain ⟨⟨hx, hb, hml, hown, hts⟩, hK, hg, hr, hlocks, hsc⟩ := C
  obtain ⟨hP, hD, hS, hO⟩ := hW
  exact W.aret (v := .ref v) hx hb hr (Or.inl ⟨_, rfl⟩) (Or.inr ⟨_, rfl⟩) (fun t ht hw => ⟨⟨X, v, rfl, rfl, rfl, by rw [ht]; exact hP, va_K.moved hw.alike hK, hD, by rw [ht]; exact Nat.le_trans hg hS.1, hO, Sc.warm hw (fun a h1 h2 => by rw [ht]; exact hS.2.1 a h1 h2) hsc⟩, hS.F ht⟩) hS.2.2 hdg hlocks
/-- a contract out of a walk -/
theorem met_of {av : List Value} {Qc : Array Value → State → Outcome → State → Prop} (hm : mOK y cy nLy rty n) (hlen : (lg_sl av).length ≤ nLy)
    (body : ∀ (p : Program) (e : Env) (s : State) (m : MethodId) (args : Array Value) (below : List Frame) (meth : Method) (c : Code) (ls : Array Slot), Cx g y.cls cy nLy rty p s m args meth c → Wd g σ X s s.heap [] → lv_has ls nLy (lv_args 0 av) →
      W p l e (rmZ fr lo) s m args below meth c s.heap [] 0 0 (MQ below Qc args s 0 0 (gA g)) (F0 m 0 ls [])) : Met l y (Cond.code y cy nLy rty :: TB) (rmZ fr lo) (va_Pc av (Rp g σ X)) Qc 0 0 (gA g) := by
  refine metW (cc := cy) (maxL := nLy) (ret := rty) hm.2.1 rfl ?_
  intro p e s m args below meth c s₁ B hml hv
  obtain ⟨rfl, hP, hK, hD, hg, hO, hsc⟩ := hv
  have hts := atoms_spec (ws := Cond.code y cy nLy rty :: TB) B.pre
  have hown : s.vm.findClass y.cls = some m.cls := findClass_of_methodNamed B.named
  rw [lg_entry_eq]
  exact body p e s m _ below meth c _ ⟨⟨B.exec, B.bytes, hml, hown, fun w h => hts w (List.mem_cons_of_mem _ h)⟩, hK, hg, B.returns, B.notSynchronized, hsc⟩ ⟨hP, hD, va_S.rf, hO⟩ (lv_entry av hlen)
end CALLS
/-! ===== the texts' words: String.length and String.charAt ===== -/
def slen {ρ : Type} (w : Nat) (cont : Int32 → Option ρ) : Option ρ := if w < 18 then cont (Int32.ofNat (wN w) >>> ((0 : Int32) &&& 31)) else none
def wC (w : Nat) (i : Int32) : Int32 := ((((wB w).getD i.toNatClampNeg 0) &&& 255).toUInt32 % 65536).toInt32
def schr {ρ : Type} (w : Nat) (i : Int32) (cont : Int32 → Option ρ) : Option ρ := if w < 18 ∧ ¬ (i < 0 ∨ wN w ≤ i.toNatClampNeg) then cont (wC w i) else none
theorem wC_nar0 : ∀ w, w < 18 → ∀ k, k < wN w → narrow .char (.int (((((wB w).getD k 0) &&& 255).toUInt32 % 65536).toInt32)) = .int (((((wB w).getD k 0) &&& 255).toUInt32 % 65536).toInt32) := by decide +kernel
