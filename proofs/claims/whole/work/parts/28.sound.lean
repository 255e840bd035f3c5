/-! THE CALLS, and the whole: what the ideal machine answers, the real one answers. -/
section CS
variable {D : iD} {base : Nat} {l : Launch} {p : Program} {e : Env} {R : Room} {s : State} {m : MethodId} {args : Array Value} {below : List Frame} {meth : Method} {c : Code} {x0 s0 : Nat} {o : iO} {σe : iS} {j pc len : Nat} {ls st : List iV} {σ : iS} {T : State} {locs : List Loc} {cells slots : Nat}
/-- a constructor's call, a call of a nest mate: both ends -/
theorem ix_callI (X : Stand p l e R s m args below meth c T locs cells slots) (hexec : p.tables.exec = Jvm.exec) {own : String} {index : Nat} {y : MethodName} {bytes : ByteArray} {maxL : Nat}
    (hown : s.vm.findClass own = some m.cls) (hy1 : y.name = "<init>") (hlink : (Cond.methodLink own index y).before args s = true) (hinst : (Cond.instanceMethod y).before args s = true)
    (hcode : (Cond.code y bytes maxL none).before args s = true) (hy : y.cls ≠ "java/lang/invoke/MethodHandle" ∧ y.cls ≠ "java/lang/invoke/VarHandle")
    {W9 : Nat} {Pre : Pt → Array Value → Prop} {Post : Pt → Array Value → Option Value → Pt → Prop} {PostX : Pt → Array Value → Addr → Pt → Prop} (hK : vx_Back l R p e below s args y 3 W9 Pre Post PostX)
    {g : JFrame} (hg : g.method = m) (hsize : g.locals.size = c.maxLocals) {a : Addr} {argsL rest : List Value} (hlen : ∀ sig, parseMethodDescriptor y.desc = some sig → argsL.length = sig.parameters.length)
    (hstack : g.stack = argsL.reverse ++ .ref a :: rest) (hW : 2 * g.monitorRoom + (rest.map fun v => v.category).sum ≤ W9) (hdg : decode c.code g.pc = .ok (.invokespecial index, 3))
    (hpre : ∀ vm₁, s.WarmedH vm₁ → Pre ⟨T.setVm vm₁, locs, cells, slots⟩ (Value.ref a :: argsL).toArray) :
    (∃ (v : Option Value) (vm₁ : Vm) (B : Pt), s.WarmedH vm₁ ∧ Stand p l e R s m args below meth c B.U B.locs B.cells B.slots ∧ Post ⟨T.setVm vm₁, locs, cells, slots⟩ (Value.ref a :: argsL).toArray v B ∧
      ∀ target, Steps p.tables e below (B.U.setTop { g with pc := g.pc + 3, stack := v.toList ++ rest }) target → Steps p.tables e below (T.setTop g) target) ∨
    (∃ (q : Addr) (vm₁ : Vm) (B : Pt), s.WarmedH vm₁ ∧ Stand p l e R s m args below meth c B.U B.locs B.cells B.slots ∧ PostX ⟨T.setVm vm₁, locs, cells, slots⟩ (Value.ref a :: argsL).toArray q B ∧
      Steps p.tables e below (T.setTop g) ((B.U.setTop { g with stack := rest }).pushFrame (.throwing q))) := by
  subst hg
  have hpl : e.platform.magicAccessors = ({} : Platform).magicAccessors := by rw [X.admits.platform]
  obtain ⟨mk, methM, cM, kP, vm₁, hnamed, hmethM, hcodeM, -, hlocalsM, -, hkP, -, hW₁, hstep₁⟩ := Steps.initColdArgs (e := e) X.here hexec X.warmed hpl hown hy1 hy hlink hinst hcode (f := g) rfl hlen hstack hdg
  have X₁ := X.noted hW₁
  rcases hK g.method meth c ⟨T.setVm vm₁, locs, cells, slots⟩ { g with stack := rest } (.invokespecial index) mk (Value.ref a :: argsL).toArray X₁ rfl hsize hdg hW (X₁.named hnamed) (hpre vm₁ X₁.warmed) with ⟨v, B, X', hpost, hsteps⟩ | ⟨q, B, X', hpost, hsteps⟩
  · exact Or.inl ⟨v, vm₁, B, X₁.warmed, X', hpost, fun target h => hstep₁ _ fun acts => by rw [doInvoke_state]; exact hsteps.trans h⟩
  · exact Or.inr ⟨q, vm₁, B, X₁.warmed, X', hpost, hstep₁ _ fun acts => by rw [doInvoke_state]; exact hsteps⟩
theorem ix_callIN (X : Stand p l e R s m args below meth c T locs cells slots) (hexec : p.tables.exec = Jvm.exec) {own host : String} {index : Nat} {y : MethodName} {bytes : ByteArray} {maxL : Nat}
    (hown : s.vm.findClass own = some m.cls) (hy1 : y.name = "<init>") (hlink : (Cond.methodLinkNest own index y host).before args s = true) (hinst : (Cond.instanceMethod y).before args s = true)
    (hcode : (Cond.code y bytes maxL none).before args s = true) (hy : y.cls ≠ "java/lang/invoke/MethodHandle" ∧ y.cls ≠ "java/lang/invoke/VarHandle")
    {W9 : Nat} {Pre : Pt → Array Value → Prop} {Post : Pt → Array Value → Option Value → Pt → Prop} {PostX : Pt → Array Value → Addr → Pt → Prop} (hK : vx_Back l R p e below s args y 3 W9 Pre Post PostX)
    {g : JFrame} (hg : g.method = m) (hsize : g.locals.size = c.maxLocals) {a : Addr} {argsL rest : List Value} (hlen : ∀ sig, parseMethodDescriptor y.desc = some sig → argsL.length = sig.parameters.length)
    (hstack : g.stack = argsL.reverse ++ .ref a :: rest) (hW : 2 * g.monitorRoom + (rest.map fun v => v.category).sum ≤ W9) (hdg : decode c.code g.pc = .ok (.invokespecial index, 3))
    (hpre : ∀ vm₁, s.WarmedH vm₁ → Pre ⟨T.setVm vm₁, locs, cells, slots⟩ (Value.ref a :: argsL).toArray) :
    (∃ (v : Option Value) (vm₁ : Vm) (B : Pt), s.WarmedH vm₁ ∧ Stand p l e R s m args below meth c B.U B.locs B.cells B.slots ∧ Post ⟨T.setVm vm₁, locs, cells, slots⟩ (Value.ref a :: argsL).toArray v B ∧
      ∀ target, Steps p.tables e below (B.U.setTop { g with pc := g.pc + 3, stack := v.toList ++ rest }) target → Steps p.tables e below (T.setTop g) target) ∨
    (∃ (q : Addr) (vm₁ : Vm) (B : Pt), s.WarmedH vm₁ ∧ Stand p l e R s m args below meth c B.U B.locs B.cells B.slots ∧ PostX ⟨T.setVm vm₁, locs, cells, slots⟩ (Value.ref a :: argsL).toArray q B ∧
      Steps p.tables e below (T.setTop g) ((B.U.setTop { g with stack := rest }).pushFrame (.throwing q))) := by
  subst hg
  have hpl : e.platform.magicAccessors = ({} : Platform).magicAccessors := by rw [X.admits.platform]
  obtain ⟨mk, methM, cM, kP, vm₁, hnamed, hmethM, hcodeM, -, hlocalsM, -, hkP, -, hW₁, hstep₁⟩ := Steps.initColdArgsNest (e := e) X.here hexec X.warmed hpl hown hy1 hy hlink hinst hcode (f := g) rfl hlen hstack hdg
  have X₁ := X.noted hW₁
  rcases hK g.method meth c ⟨T.setVm vm₁, locs, cells, slots⟩ { g with stack := rest } (.invokespecial index) mk (Value.ref a :: argsL).toArray X₁ rfl hsize hdg hW (X₁.named hnamed) (hpre vm₁ X₁.warmed) with ⟨v, B, X', hpost, hsteps⟩ | ⟨q, B, X', hpost, hsteps⟩
  · exact Or.inl ⟨v, vm₁, B, X₁.warmed, X', hpost, fun target h => hstep₁ _ fun acts => by rw [doInvoke_state]; exact hsteps.trans h⟩
  · exact Or.inr ⟨q, vm₁, B, X₁.warmed, X', hpost, hstep₁ _ fun acts => by rw [doInvoke_state]; exact hsteps⟩
theorem ix_callSN (X : Stand p l e R s m args below meth c T locs cells slots) (hexec : p.tables.exec = Jvm.exec) {own host : String} {index : Nat} {y : MethodName} {bytes : ByteArray} {maxL : Nat} {ret : Option FieldType}
    (hown : s.vm.findClass own = some m.cls) (hlink : (Cond.methodLinkNest own index y host).before args s = true) (hstat : (Cond.static y).before args s = true) (hinit : (Cond.initialized y.cls).before args s = true)
    (hcode : (Cond.code y bytes maxL ret).before args s = true) (hy : y.cls ≠ "java/lang/invoke/MethodHandle" ∧ y.cls ≠ "java/lang/invoke/VarHandle")
    {W9 : Nat} {Pre : Pt → Array Value → Prop} {Post : Pt → Array Value → Option Value → Pt → Prop} {PostX : Pt → Array Value → Addr → Pt → Prop} (hK : vx_Back l R p e below s args y 3 W9 Pre Post PostX)
    {g : JFrame} (hg : g.method = m) (hsize : g.locals.size = c.maxLocals) {argsL rest : List Value} (hlen : ∀ sig, parseMethodDescriptor y.desc = some sig → argsL.length = sig.parameters.length)
    (hstack : g.stack = argsL.reverse ++ rest) (hW : 2 * g.monitorRoom + (rest.map fun v => v.category).sum ≤ W9) (hdg : decode c.code g.pc = .ok (.invokestatic index, 3))
    (hpre : ∀ vm₁, s.WarmedH vm₁ → Pre ⟨T.setVm vm₁, locs, cells, slots⟩ argsL.toArray) :
    (∃ (v : Option Value) (vm₁ : Vm) (B : Pt), s.WarmedH vm₁ ∧ Stand p l e R s m args below meth c B.U B.locs B.cells B.slots ∧ Post ⟨T.setVm vm₁, locs, cells, slots⟩ argsL.toArray v B ∧
      ∀ target, Steps p.tables e below (B.U.setTop { g with pc := g.pc + 3, stack := v.toList ++ rest }) target → Steps p.tables e below (T.setTop g) target) ∨
    (∃ (q : Addr) (vm₁ : Vm) (B : Pt), s.WarmedH vm₁ ∧ Stand p l e R s m args below meth c B.U B.locs B.cells B.slots ∧ PostX ⟨T.setVm vm₁, locs, cells, slots⟩ argsL.toArray q B ∧
      Steps p.tables e below (T.setTop g) ((B.U.setTop { g with stack := rest }).pushFrame (.throwing q))) := by
  obtain ⟨mk, hnamed⟩ := Cond.code_named hcode
  obtain ⟨methM, cM, hmethM, -, -, -, -, -, -, hsigM⟩ := Cond.code_spec hnamed hcode
  have hstatic : methM.isStatic = true := Cond.static_spec hnamed hmethM hstat
  obtain ⟨kP, hkP, -⟩ := className_of_methodNamed hnamed
  have hinitP : kP.init = .initialized := Cond.initialized_spec (findClass_of_methodNamed hnamed) hkP hinit
  obtain ⟨vm₁, X₁, hstep₁⟩ := X.invokestaticNest hexec hown hlink hnamed hmethM hstatic hkP hinitP hy (g := g) hg (argsL := argsL) (rest := rest) (hlen _ hsigM) hstack hdg
  rcases hK m meth c ⟨T.setVm vm₁, locs, cells, slots⟩ { g with stack := rest } (.invokestatic index) mk argsL.toArray X₁ hg hsize hdg hW (X₁.named hnamed) (hpre vm₁ X₁.warmed) with ⟨v, B, X', hpost, hsteps⟩ | ⟨q, B, X', hpost, hsteps⟩
  · exact Or.inl ⟨v, vm₁, B, X₁.warmed, X', hpost, fun target h => hstep₁ _ fun acts => by rw [doInvoke_state]; exact hsteps.trans h⟩
  · exact Or.inr ⟨q, vm₁, B, X₁.warmed, X', hpost, hstep₁ _ fun acts => by rw [doInvoke_state]; exact hsteps⟩
/-- what a call gives -/
def iCR (D : iD) (base : Nat) (l : Launch) (p : Program) (e : Env) (R : Room) (s : State) (m : MethodId) (args : Array Value) (below : List Frame) (meth : Method) (c : Code) (T : State) (locs : List Loc) (cells slots : Nat) (g : JFrame) (rest : List Value) (as : List iV) (o1 : iO) (σ σ1 : iS) : Prop :=
  (∃ (v : Option Value) (vm₁ : Vm) (B : Pt), s.WarmedH vm₁ ∧ Stand p l e R s m args below meth c B.U B.locs B.cells B.slots ∧ iPost D base o1 σ σ1 ⟨T.setVm vm₁, locs, cells, slots⟩ (as.map cv).toArray v B ∧
      ∀ target, Steps p.tables e below (B.U.setTop { g with pc := g.pc + 3, stack := v.toList ++ rest }) target → Steps p.tables e below (T.setTop g) target) ∨
  (∃ (q : Addr) (vm₁ : Vm) (B : Pt), s.WarmedH vm₁ ∧ Stand p l e R s m args below meth c B.U B.locs B.cells B.slots ∧ iPostX D base o1 σ σ1 ⟨T.setVm vm₁, locs, cells, slots⟩ (as.map cv).toArray q B ∧
      Steps p.tables e below (T.setTop g) ((B.U.setTop { g with stack := rest }).pushFrame (.throwing q)))
/-- the words of a callee at a caller's state -/
theorem iPre_of {as : List iV} {σ1 : iS} {H : Heap} (hKy : iKy D base s) (hR : iRel D base σ H) (hO : ∀ q : Nat, q < base → H[q]? = s.heap[q]?) (hT : T.heap = H) (h1 : cells + (sX σ1 - sX σ) ≤ R.cells) (h2 : slots + (sS σ1 - sS σ) ≤ R.slots) : ∀ vm₁, s.WarmedH vm₁ → iPre D base R as σ σ1 ⟨T.setVm vm₁, locs, cells, slots⟩ (as.map cv).toArray :=
  fun vm₁ hW => ⟨h1, h2, rfl, hKy.moved (U := T.setVm vm₁) hW (fun q hq => by show T.heap[q]? = _; rw [hT]; exact hO q hq), by show iRel D base σ T.heap; rw [hT]; exact hR⟩
/-- a row of a method's table -/
def iEt (h : Nat × Nat × Nat × Nat) : ExceptionTableEntry := ⟨h.1, h.2.1, h.2.2.1, iEct h.2.2.2⟩
theorem iTab (j : Nat) : tableOf (iHh j) = ((mHs[j]?).getD []).map iEt := by
  rw [iHm]
  unfold tableOf
  rw [List.map_map]
  rfl
theorem iH12 {h : Nat × Nat × Nat × Nat} (hm : h ∈ (mHs[j]?).getD []) : h.2.2.2 = 1 ∨ h.2.2.2 = 2 := by
  cases hq : mHs[j]? with
  | none => rw [hq] at hm; cases hm
  | some q => rw [hq] at hm; exact iHm1 q (List.mem_of_getElem? hq) h hm
/-- behind a call -/
theorem iAfter {as rest : List iV} {o1 : iO} {σ1 : iS} {H : Heap} {arr : Array Slot} {stv : List Value} (C : iCtx D p s m meth c j) (hj : j < 140) (hKy : iKy D base s) (hx0 : x0 ≤ sX σ) (hs0 : s0 ≤ sS σ) (hm1 : sX σ ≤ sX σ1) (hm2 : sS σ ≤ sS σ1)
    (hO : ∀ q : Nat, q < base → H[q]? = s.heap[q]?) (hL : ∀ z ∈ locs, base ≤ z.base) (hA : iLoc arr (mL j) ls)
    (hcr : ∀ T : State, T.heap = H → Stand p l e R s m args below meth c T locs (sX σ - x0) (sS σ - s0) → iCR D base l p e R s m args below meth c T locs (sX σ - x0) (sS σ - s0) (F0 m pc arr stv) (rest.map cv) as o1 σ σ1)
    (k1 : ∀ v, o1 = .inl v → iWG D base l p e R s m args below meth c x0 s0 o σe j (pc + 3) ls (v.toList ++ rest) σ1)
    (k2 : ∀ x a h, o1 = .inr (x, a) → mH j pc x = some h → a ≠ 0 → iWG D base l p e R s m args below meth c x0 s0 o σe j h ls [vr a] σ1)
    (k3 : ∀ x a, o1 = .inr (x, a) → mH j pc x = none → mHn j = true ∧ o = .inr (x, a) ∧ σe = σ1) :
    W p l e R s m args below meth c H locs (sX σ - x0) (sS σ - s0) (iEnd D base below s o σe (sX σe - x0) (sS σe - s0)) (F0 m pc arr stv) := by
  intro T hT X
  have e1 : sX σ - x0 + (sX σ1 - sX σ) = sX σ1 - x0 := by omega
  have e2 : sS σ - s0 + (sS σ1 - sS σ) = sS σ1 - s0 := by omega
  rcases hcr T hT X with ⟨v, vm₁, ⟨U', l2, c2, s2⟩, hW1, X', ⟨ho, hr1, hold, ⟨L, hl1, hl2⟩, hc1, hc2⟩, st1⟩ | ⟨q, vm₁, ⟨U', l2, c2, s2⟩, hW1, X', ⟨ho, hth, hr1, hold, ⟨L, hl1, hl2⟩, hc1, hc2⟩, st1⟩
  · dsimp only [Pt.U, Pt.locs, Pt.cells, Pt.slots] at X' ho hr1 hold hl1 hc1 hc2 st1
    rw [e1] at hc1
    rw [e2] at hc2
    subst hc1; subst hc2; subst hl1
    rcases o1 with w | ⟨x, a⟩
    · have hv : v = w.map cv := by
        have h9 : Outcome.returned v = .returned (w.map cv) := ho
        cases h9; rfl
      obtain ⟨t, a1, b1⟩ := k1 w rfl U'.heap (locs ++ L) arr hr1 (fun q hq => (hold q hq).trans (by show T.heap[q]? = _; rw [hT]; exact hO q hq)) (fun z hz => (List.mem_append.mp hz).elim (hL z) (hl2 z)) hA U' rfl X'
      refine ⟨t, st1 t ?_, b1⟩
      have hst : (w.toList ++ rest).map cv = v.toList ++ rest.map cv := by
        rw [hv, List.map_append]
        cases w <;> rfl
      rw [hst] at a1
      exact a1
    · have h9 : Outcome.returned v = .threw (a - 1) := ho
      cases h9
  · dsimp only [Pt.U, Pt.locs, Pt.cells, Pt.slots] at X' ho hth hr1 hold hl1 hc1 hc2 st1
    rw [e1] at hc1
    rw [e2] at hc2
    subst hc1; subst hc2; subst hl1
    rcases o1 with w | ⟨x, a⟩
    · have h9 : Outcome.threw q = .returned (w.map cv) := ho
      cases h9
    · have h9 : Outcome.threw q = .threw (a - 1) := ho
      cases h9
      obtain ⟨t9, ⟨ha0, ce, g1, g2, g3⟩, g4⟩ := hth
      rw [g4] at g1
      have hcl : s.vm.findClass (iEx x) = some ce.cls := vx_cls hW1 g3
      have hO2 : ∀ q : Nat, q < base → U'.heap[q]? = s.heap[q]? := fun q hq => (hold q hq).trans (by show T.heap[q]? = _; rw [hT]; exact hO q hq)
      have hL2 : ∀ z ∈ locs ++ L, base ≤ z.base := fun z hz => (List.mem_append.mp hz).elim (hL z) (hl2 z)
      obtain ⟨cx, cb, cr, clk, co, cm, -, ct, cK, cE, -⟩ := C
      rw [iTab] at cE
      cases hmh : mH j pc x with
      | some hp =>
        unfold mH at hmh
        obtain ⟨ent, hfind, rfl⟩ := Option.map_eq_some_iff.mp hmh
        obtain ⟨hp1, pre, suf, hsp, hpre⟩ := List.find?_eq_some_iff_append.mp hfind
        rw [Bool.and_eq_true, Bool.and_eq_true] at hp1
        obtain ⟨⟨p1, p2⟩, p3⟩ := hp1
        have p1 := Nat.le_of_ble_eq_true p1
        have p2 := Nat.le_of_ble_eq_true p2
        have p3 := Nat.eq_of_beq_eq_true p3
        have hent : ent ∈ (mHs[j]?).getD [] := by rw [hsp]; exact List.mem_append_right _ List.mem_cons_self
        have hwn : iOw j = "TextVerbsLaw" := by
          rcases iHow j hj with h | h
          · rw [List.isEmpty_iff.mp h] at hent; cases hent
          · exact h
        rw [hwn] at co
        have hx12 : x = 1 ∨ x = 2 := by rw [← p3]; exact iH12 hent
        have kk := k2 x a ent.2.2.1 rfl (by unfold mH; rw [hfind]; rfl) ha0 U'.heap (locs ++ L) arr hr1 hO2 hL2 hA
        rw [List.map_cons, List.map_nil, cv_r ha0] at kk
        have hcov : covers (iEt ent) pc = true := by
          show (decide (ent.1 ≤ pc) && decide (pc < ent.2.1)) = true
          rw [Bool.and_eq_true, decide_eq_true_eq, decide_eq_true_eq]
          exact ⟨p1, p2⟩
        have hclk : ∀ y, y = 1 ∨ y = 2 → (Cond.classLink "TextVerbsLaw" (iEct y) (iEx y)).before args s = true := by
          intro y hy
          rcases hy with rfl | rfl
          · exact ct.use kcl_1 rfl args
          · exact ct.use kcl_2 rfl args
        have hne : ∀ y, y = 1 ∨ y = 2 → iEct y ≠ 0 := by
          intro y hy
          rcases hy with rfl | rfl <;> decide
        have hcast : (Cond.castable (iEx x) (iEx x)).before args s = true := by
          rcases hx12 with rfl | rfl
          · exact ct.use kca_1 rfl args
          · exact ct.use kca_2 rfl args
        have hvx := vx_catch (own := "TextVerbsLaw") (name := iEx x) (E := iEx x) (ce := ce) (q := a - 1) (H := U'.heap) (locs := locs ++ L) (cells := sX σ1 - x0) (slots := sS σ1 - s0) (pc := pc) (ls := arr) (rest := rest.map cv) (l := l) (p := p) (e := e) (R := R) (args := args) (below := below) (meth := meth) (Q := iEnd D base below s o σe (sX σe - x0) (sS σe - s0)) co (pre.map iEt) (iEt ent) (suf.map iEt) (by rw [cE, hsp, List.map_append, List.map_cons])
          (fun z hz => by
            obtain ⟨h, hh, rfl⟩ := List.mem_map.mp hz
            have hmem : h ∈ (mHs[j]?).getD [] := by rw [hsp]; exact List.mem_append_left _ hh
            cases hcv : covers (iEt h) pc with
            | false => exact Or.inl rfl
            | true =>
              refine Or.inr ⟨hne _ (iH12 hmem), iEx h.2.2.2, hclk _ (iH12 hmem), ?_⟩
              have hnp := hpre h hh
              have hcv2 : (decide (h.1 ≤ pc) && decide (pc < h.2.1)) = true := hcv
              rw [Bool.and_eq_true, decide_eq_true_eq, decide_eq_true_eq] at hcv2
              have hxe : h.2.2.2 ≠ x := by
                intro hz2
                have b1 : Nat.ble h.1 pc = true := Nat.ble_eq_true_of_le hcv2.1
                have b2 : Nat.blt pc h.2.1 = true := Nat.ble_eq_true_of_le hcv2.2
                have b3 : Nat.beq h.2.2.2 x = true := by rw [hz2]; exact Nat.beq_refl x
                simp [b1, b2, b3] at hnp
              rcases hx12 with rfl | rfl <;> rcases iH12 hmem with h5 | h5
              · exact absurd h5 hxe
              · rw [h5]; exact hKy.2.2.1.2.2.2.1
              · rw [h5]; exact hKy.2.2.1.2.2.2.2
              · exact absurd h5 hxe)
          hcov (hne _ (iH12 hent)) (by show (Cond.classLink "TextVerbsLaw" (iEct ent.2.2.2) (iEx x)).before args s = true; rw [p3]; exact hclk x hx12) hcast g1 g2 hcl kk
        obtain ⟨t, a1, b1⟩ := hvx U' rfl X'
        exact ⟨t, st1.trans a1, b1⟩
      | none =>
        obtain ⟨hz, rfl, rfl⟩ := k3 x a rfl hmh
        have hem : (mHs[j]?).getD [] = [] := List.isEmpty_iff.mp hz
        rw [hem] at cE
        obtain ⟨st2, hrun, hend, hW, hsm⟩ := X'.leaveThrown (a - 1) (g := F0 m pc arr (rest.map cv)) rfl rfl rfl (fun y hy => by rw [cE] at hy; cases hy) clk
        refine ⟨_, st1.trans st2, .threw (a - 1), hrun, hend, rfl, ⟨ha0, ce, g1, g2, hcl⟩, hr1, hW, _, hsm, hL2⟩
end CS
