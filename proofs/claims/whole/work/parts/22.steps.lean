/-! A STEP OF THE IDEAL MACHINE IS A STEP OF THE REAL ONE. -/
def iGW (w : Cond) : Bool := (w.onTables && w.keeps) || (match w with
  | .arrayClass _ => true
  | .arrayOver (.object _) => true
  | .fieldLinkNest _ _ _ _ _ _ => true
  | .methodLinkNest _ _ _ _ => true
  | .castable _ _ => true
  | .declares _ => true
  | _ => false)
def iTw (U : State) : Prop := ∀ w ∈ lw_tbl, iGW w = true → w.before #[] U = true
theorem iGW_c {w : Cond} (hg : iGW w = true) : (w.onTables && w.keeps) = true ∨ (∃ ty, w = .arrayClass ty) ∨ (∃ C, w = .arrayOver (.object C)) ∨ (∃ a b c d e f, w = .fieldLinkNest a b c d e f) ∨ (∃ a b c d, w = .methodLinkNest a b c d) ∨ (∃ a b, w = .castable a b) ∨ ∃ a, w = .declares a := by
  unfold iGW at hg
  rw [Bool.or_eq_true] at hg
  rcases hg with hg | hg
  · exact Or.inl hg
  · right
    split at hg
    · exact Or.inl ⟨_, rfl⟩
    · exact Or.inr (Or.inl ⟨_, rfl⟩)
    · exact Or.inr (Or.inr (Or.inl ⟨_, _, _, _, _, _, rfl⟩))
    · exact Or.inr (Or.inr (Or.inr (Or.inl ⟨_, _, _, _, rfl⟩)))
    · exact Or.inr (Or.inr (Or.inr (Or.inr (Or.inl ⟨_, _, rfl⟩))))
    · exact Or.inr (Or.inr (Or.inr (Or.inr (Or.inr ⟨_, rfl⟩))))
    · cases hg
theorem iTw.at {s U : State} (h : iTw s) (hW : s.WarmedH U.vm) {w : Cond} (hw : w ∈ lw_tbl) (hg : iGW w = true) (args : Array Value) : w.before args U = true := by
  have hb := h w hw hg
  rcases iGW_c hg with hg | ⟨ty, rfl⟩ | ⟨C, rfl⟩ | ⟨_, _, _, _, _, _, rfl⟩ | ⟨_, _, _, _, rfl⟩ | ⟨_, _, rfl⟩ | ⟨_, rfl⟩
  · exact word_at hW (Or.inl hg) hb
  · exact word_at hW (Or.inr ⟨_, rfl⟩) hb
  · exact va_AO.moved hW.alike hb
  · exact va_Nw.use rfl (va_Nw.warmF hW hb)
  · exact va_Nw.use rfl (va_Nw.warmM hW hb)
  · exact va_Nw.use rfl (va_Nw.warmC hW hb)
  · exact va_Nw.use rfl (va_Nw.warmD hW hb)
theorem iTw.moved {s U : State} (h : iTw s) (hW : s.WarmedH U.vm) : iTw U := fun _ hw hg => h.at hW hw hg #[]
theorem iTw.use {s : State} (h : iTw s) {w : Cond} (hw : w ∈ lw_tbl) (hg : iGW w = true) (args : Array Value) : w.before args s = true := h.at (State.WarmedH.refl s) hw hg args
/-- what is known where a method's body runs -/
def iCtx (D : iD) (p : Program) (s : State) (m : MethodId) (meth : Method) (c : Code) (j : Nat) : Prop :=
  p.tables.exec = Jvm.exec ∧ c.code = iBy j ∧ meth.sig.returnType = iRt j ∧ meth.locks = false ∧ s.vm.findClass (iOw j) = some m.cls ∧ c.maxLocals = mL j ∧ meth.name = (iY j).name ∧ iTw s ∧ va_K D.1 vwC (iTys D) s ∧ c.exceptionTable.toList = tableOf (iHh j) ∧ ArrOfT s (D.2.2.2.2 0) .int
def iOut : iO → Outcome → Prop
  | .inl v, oc => oc = .returned (v.map cv)
  | .inr (_, a), oc => oc = .threw (a - 1)
/-- what is thrown lies in the heap, of its class -/
def iThC : iO → State → State → Prop
  | .inl _, _, _ => True
  | .inr (x, a), s, t => a ≠ 0 ∧ ∃ ce : Cell, t.heap[a - 1]? = some ce ∧ ce.vm = .none ∧ s.vm.findClass (iEx x) = some ce.cls
/-- the body's end -/
def iEnd (D : iD) (base : Nat) (below : List Frame) (s : State) (o : iO) (σe : iS) (cc ss : Nat) : State → Prop := fun t =>
  ∃ oc, t.status = .running ∧ Ended t below oc ∧ iOut o oc ∧ iThC o s t ∧ iRel D base σe t.heap ∧ s.WarmedH t.vm ∧ ∃ L, s.sameButNew ({ t with vm := s.vm } : State) L cc ss ∧ ∀ z ∈ L, base ≤ z.base
/-- from here on the body comes to its end -/
def iWG (D : iD) (base : Nat) (l : Launch) (p : Program) (e : Env) (R : Room) (s : State) (m : MethodId) (args : Array Value) (below : List Frame) (meth : Method) (c : Code) (x0 s0 : Nat) (o : iO) (σe : iS) (j pc : Nat) (ls st : List iV) (σ : iS) : Prop :=
  ∀ (H : Heap) (locs : List Loc) (arr : Array Slot), iRel D base σ H → (∀ q : Nat, q < base → H[q]? = s.heap[q]?) → (∀ z ∈ locs, base ≤ z.base) → iLoc arr (mL j) ls → W p l e R s m args below meth c H locs (sX σ - x0) (sS σ - s0) (iEnd D base below s o σe (sX σe - x0) (sS σe - s0)) (F0 m pc arr (st.map cv))
theorem iLen1 {len n : Nat} (h : Nat.beq len n = true) : len = n := Nat.eq_of_beq_eq_true h
section SD
variable {D : iD} {base : Nat} {l : Launch} {p : Program} {e : Env} {R : Room} {s : State} {m : MethodId} {args : Array Value} {below : List Frame} {meth : Method} {c : Code} {x0 s0 : Nat} {o : iO} {σe : iS} {j pc len : Nat} {ls st : List iV} {σ : iS}

theorem sd_iconst {v : Int} (C : iCtx D p s m meth c j) (h : iC j pc = some (.iconst v, len))  (k : iWG D base l p e R s m args below meth c x0 s0 o σe j (pc + len) ls (vi (Int32.ofInt v) :: st) σ) : iWG D base l p e R s m args below meth c x0 s0 o σe j pc ls (st) σ := by
  obtain ⟨hd, hn⟩ := iDec h
  cases iLen1 hn
  intro H locs arr hR hO hL hA
  exact lv_iconst C.1 C.2.1 hd rfl (k H locs arr hR hO hL hA)

theorem sd_bipush {v : Int} (C : iCtx D p s m meth c j) (h : iC j pc = some (.bipush v, len))  (k : iWG D base l p e R s m args below meth c x0 s0 o σe j (pc + len) ls (vi (Int8.ofInt v).toInt32 :: st) σ) : iWG D base l p e R s m args below meth c x0 s0 o σe j pc ls (st) σ := by
  obtain ⟨hd, hn⟩ := iDec h
  cases iLen1 hn
  intro H locs arr hR hO hL hA
  exact lv_bipush C.1 C.2.1 hd rfl (k H locs arr hR hO hL hA)

theorem sd_sipush {v : Int} (C : iCtx D p s m meth c j) (h : iC j pc = some (.sipush v, len))  (k : iWG D base l p e R s m args below meth c x0 s0 o σe j (pc + len) ls (vi (Int16.ofInt v).toInt32 :: st) σ) : iWG D base l p e R s m args below meth c x0 s0 o σe j pc ls (st) σ := by
  obtain ⟨hd, hn⟩ := iDec h
  cases iLen1 hn
  intro H locs arr hR hO hL hA
  exact lv_sipush C.1 C.2.1 hd rfl (k H locs arr hR hO hL hA)

theorem sd_null  (C : iCtx D p s m meth c j) (h : iC j pc = some (.aconst_null, len))  (k : iWG D base l p e R s m args below meth c x0 s0 o σe j (pc + len) ls (vr 0 :: st) σ) : iWG D base l p e R s m args below meth c x0 s0 o σe j pc ls (st) σ := by
  obtain ⟨hd, hn⟩ := iDec h
  cases iLen1 hn
  intro H locs arr hR hO hL hA
  exact lv_null C.1 C.2.1 hd (k H locs arr hR hO hL hA)

theorem sd_iload {q : Nat} {x : Int32} (C : iCtx D p s m meth c j) (h : iC j pc = some (.iload q, len)) (hq : ls[q]? = some (vi x)) (k : iWG D base l p e R s m args below meth c x0 s0 o σe j (pc + len) ls (vi x :: st) σ) : iWG D base l p e R s m args below meth c x0 s0 o σe j pc ls (st) σ := by
  obtain ⟨hd, hn⟩ := iDec h
  cases iLen1 hn
  intro H locs arr hR hO hL hA
  exact lv_iload C.1 C.2.1 hd (hA.2.2.2 _ _ hq (fun _ h => by cases h)) (k H locs arr hR hO hL hA)

theorem sd_iload_n {q : Fin 4} {x : Int32} (C : iCtx D p s m meth c j) (h : iC j pc = some (.iload_n q, len)) (hq : ls[q.val]? = some (vi x)) (k : iWG D base l p e R s m args below meth c x0 s0 o σe j (pc + len) ls (vi x :: st) σ) : iWG D base l p e R s m args below meth c x0 s0 o σe j pc ls (st) σ := by
  obtain ⟨hd, hn⟩ := iDec h
  cases iLen1 hn
  intro H locs arr hR hO hL hA
  exact lv_iload_n C.1 C.2.1 hd rfl (hA.2.2.2 _ _ hq (fun _ h => by cases h)) (k H locs arr hR hO hL hA)

theorem sd_aload {q : Nat} {a : Nat} (C : iCtx D p s m meth c j) (h : iC j pc = some (.aload q, len)) (hq : ls[q]? = some (vr a)) (k : iWG D base l p e R s m args below meth c x0 s0 o σe j (pc + len) ls (vr a :: st) σ) : iWG D base l p e R s m args below meth c x0 s0 o σe j pc ls (st) σ := by
  obtain ⟨hd, hn⟩ := iDec h
  cases iLen1 hn
  intro H locs arr hR hO hL hA
  have hv := hA.2.2.2 _ _ hq (fun _ h => by cases h)
  have k := k H locs arr hR hO hL hA
  by_cases ha : a = 0
  · subst ha
    exact lv_aloadN C.1 C.2.1 hd hv k
  · rw [List.map_cons, cv_r ha] at k
    rw [cv_r ha] at hv
    exact lv_aload C.1 C.2.1 hd hv k

theorem sd_aload_n {q : Fin 4} {a : Nat} (C : iCtx D p s m meth c j) (h : iC j pc = some (.aload_n q, len)) (hq : ls[q.val]? = some (vr a)) (k : iWG D base l p e R s m args below meth c x0 s0 o σe j (pc + len) ls (vr a :: st) σ) : iWG D base l p e R s m args below meth c x0 s0 o σe j pc ls (st) σ := by
  obtain ⟨hd, hn⟩ := iDec h
  cases iLen1 hn
  intro H locs arr hR hO hL hA
  have hv := hA.2.2.2 _ _ hq (fun _ h => by cases h)
  have k := k H locs arr hR hO hL hA
  by_cases ha : a = 0
  · subst ha
    exact lv_aload_nN C.1 C.2.1 hd rfl hv k
  · rw [List.map_cons, cv_r ha] at k
    rw [cv_r ha] at hv
    exact lv_aload_n C.1 C.2.1 hd rfl hv k

theorem sd_istore {q : Nat} {x : Int32} (C : iCtx D p s m meth c j) (h : iC j pc = some (.istore q, len)) (hq : q < ls.length) (k : iWG D base l p e R s m args below meth c x0 s0 o σe j (pc + len) (ls.set q (vi x)) (st) σ) : iWG D base l p e R s m args below meth c x0 s0 o σe j pc ls (vi x :: st) σ := by
  obtain ⟨hd, hn⟩ := iDec h
  cases iLen1 hn
  intro H locs arr hR hO hL hA
  have hq2 : q < mL j := by rw [← hA.2.1]; exact hq
  exact lv_istore C.1 C.2.1 hd hA.has hq2 rfl (fun arr2 h2 => k H locs arr2 hR hO hL (hA.store hq2 (v := vi x) (fun _ h => by cases h) h2))

theorem sd_istore_n {q : Fin 4} {x : Int32} (C : iCtx D p s m meth c j) (h : iC j pc = some (.istore_n q, len)) (hq : q.val < ls.length) (k : iWG D base l p e R s m args below meth c x0 s0 o σe j (pc + len) (ls.set q.val (vi x)) (st) σ) : iWG D base l p e R s m args below meth c x0 s0 o σe j pc ls (vi x :: st) σ := by
  obtain ⟨hd, hn⟩ := iDec h
  cases iLen1 hn
  intro H locs arr hR hO hL hA
  have hq2 : q.val < mL j := by rw [← hA.2.1]; exact hq
  exact lv_istore_n C.1 C.2.1 hd rfl hA.has hq2 rfl (fun arr2 h2 => k H locs arr2 hR hO hL (hA.store hq2 (v := vi x) (fun _ h => by cases h) h2))

theorem sd_astore {q : Nat} {a : Nat} (C : iCtx D p s m meth c j) (h : iC j pc = some (.astore q, len)) (hq : q < ls.length) (k : iWG D base l p e R s m args below meth c x0 s0 o σe j (pc + len) (ls.set q (vr a)) (st) σ) : iWG D base l p e R s m args below meth c x0 s0 o σe j pc ls (vr a :: st) σ := by
  obtain ⟨hd, hn⟩ := iDec h
  cases iLen1 hn
  intro H locs arr hR hO hL hA
  have hq2 : q < mL j := by rw [← hA.2.1]; exact hq
  by_cases ha : a = 0
  · subst ha
    exact lv_astoreN C.1 C.2.1 hd hA.has hq2 rfl (fun arr2 h2 => k H locs arr2 hR hO hL (hA.store hq2 (v := vr 0) (fun _ h => by cases h) h2))
  · rw [List.map_cons, cv_r ha]
    exact lv_astore C.1 C.2.1 hd hA.has hq2 rfl (fun arr2 h2 => k H locs arr2 hR hO hL (hA.store hq2 (v := vr a) (fun _ h => by cases h) (by rw [cv_r ha]; exact h2)))

theorem sd_astore_n {q : Fin 4} {a : Nat} (C : iCtx D p s m meth c j) (h : iC j pc = some (.astore_n q, len)) (hq : q.val < ls.length) (k : iWG D base l p e R s m args below meth c x0 s0 o σe j (pc + len) (ls.set q.val (vr a)) (st) σ) : iWG D base l p e R s m args below meth c x0 s0 o σe j pc ls (vr a :: st) σ := by
  obtain ⟨hd, hn⟩ := iDec h
  cases iLen1 hn
  intro H locs arr hR hO hL hA
  have hq2 : q.val < mL j := by rw [← hA.2.1]; exact hq
  by_cases ha : a = 0
  · subst ha
    exact lv_astore_nN C.1 C.2.1 hd rfl hA.has hq2 rfl (fun arr2 h2 => k H locs arr2 hR hO hL (hA.store hq2 (v := vr 0) (fun _ h => by cases h) h2))
  · rw [List.map_cons, cv_r ha]
    exact lv_astore_n C.1 C.2.1 hd rfl hA.has hq2 rfl (fun arr2 h2 => k H locs arr2 hR hO hL (hA.store hq2 (v := vr a) (fun _ h => by cases h) (by rw [cv_r ha]; exact h2)))

theorem sd_iinc {q : Nat} {v : Int} {x : Int32} (C : iCtx D p s m meth c j) (h : iC j pc = some (.iinc q v, len)) (hq : ls[q]? = some (vi x)) (k : iWG D base l p e R s m args below meth c x0 s0 o σe j (pc + len) (ls.set q (vi (x + Int32.ofInt v))) (st) σ) : iWG D base l p e R s m args below meth c x0 s0 o σe j pc ls (st) σ := by
  obtain ⟨hd, hn⟩ := iDec h
  cases iLen1 hn
  intro H locs arr hR hO hL hA
  have hq2 : q < mL j := by rw [← hA.2.1]; exact (List.getElem?_eq_some_iff.mp hq).1
  obtain ⟨z, hz⟩ := List.getElem?_of_mem (iPr_mem hq (fun _ h => by cases h))
  exact lv_iinc C.1 C.2.1 hd hA.has hz rfl hq2 rfl (fun arr2 h2 => k H locs arr2 hR hO hL (hA.store hq2 (v := vi (x + Int32.ofInt v)) (fun _ h => by cases h) h2))

theorem sd_iadd {x y : Int32} (C : iCtx D p s m meth c j) (h : iC j pc = some (.iadd, len))  (k : iWG D base l p e R s m args below meth c x0 s0 o σe j (pc + len) ls (vi (x + y) :: st) σ) : iWG D base l p e R s m args below meth c x0 s0 o σe j pc ls (vi y :: vi x :: st) σ := by
  obtain ⟨hd, hn⟩ := iDec h
  cases iLen1 hn
  intro H locs arr hR hO hL hA
  exact lv_iadd C.1 C.2.1 hd (k H locs arr hR hO hL hA)

theorem sd_isub {x y : Int32} (C : iCtx D p s m meth c j) (h : iC j pc = some (.isub, len))  (k : iWG D base l p e R s m args below meth c x0 s0 o σe j (pc + len) ls (vi (x - y) :: st) σ) : iWG D base l p e R s m args below meth c x0 s0 o σe j pc ls (vi y :: vi x :: st) σ := by
  obtain ⟨hd, hn⟩ := iDec h
  cases iLen1 hn
  intro H locs arr hR hO hL hA
  exact lv_isub C.1 C.2.1 hd (k H locs arr hR hO hL hA)

theorem sd_imul {x y : Int32} (C : iCtx D p s m meth c j) (h : iC j pc = some (.imul, len))  (k : iWG D base l p e R s m args below meth c x0 s0 o σe j (pc + len) ls (vi (x * y) :: st) σ) : iWG D base l p e R s m args below meth c x0 s0 o σe j pc ls (vi y :: vi x :: st) σ := by
  obtain ⟨hd, hn⟩ := iDec h
  cases iLen1 hn
  intro H locs arr hR hO hL hA
  exact lv_imul C.1 C.2.1 hd (k H locs arr hR hO hL hA)

theorem sd_iand {x y : Int32} (C : iCtx D p s m meth c j) (h : iC j pc = some (.iand, len))  (k : iWG D base l p e R s m args below meth c x0 s0 o σe j (pc + len) ls (vi (x &&& y) :: st) σ) : iWG D base l p e R s m args below meth c x0 s0 o σe j pc ls (vi y :: vi x :: st) σ := by
  obtain ⟨hd, hn⟩ := iDec h
  cases iLen1 hn
  intro H locs arr hR hO hL hA
  exact lv_iand C.1 C.2.1 hd (k H locs arr hR hO hL hA)

theorem sd_idiv {x y : Int32} (C : iCtx D p s m meth c j) (h : iC j pc = some (.idiv, len)) (hy : y ≠ 0) (k : iWG D base l p e R s m args below meth c x0 s0 o σe j (pc + len) ls (vi (x / y) :: st) σ) : iWG D base l p e R s m args below meth c x0 s0 o σe j pc ls (vi y :: vi x :: st) σ := by
  obtain ⟨hd, hn⟩ := iDec h
  cases iLen1 hn
  intro H locs arr hR hO hL hA
  exact lv_idiv C.1 C.2.1 hd hy (k H locs arr hR hO hL hA)

theorem sd_irem {x y : Int32} (C : iCtx D p s m meth c j) (h : iC j pc = some (.irem, len)) (hy : y ≠ 0) (k : iWG D base l p e R s m args below meth c x0 s0 o σe j (pc + len) ls (vi (x - x / y * y) :: st) σ) : iWG D base l p e R s m args below meth c x0 s0 o σe j pc ls (vi y :: vi x :: st) σ := by
  obtain ⟨hd, hn⟩ := iDec h
  cases iLen1 hn
  intro H locs arr hR hO hL hA
  exact lv_irem C.1 C.2.1 hd hy (k H locs arr hR hO hL hA)

theorem sd_i2l {x : Int32} (C : iCtx D p s m meth c j) (h : iC j pc = some (.i2l, len))  (k : iWG D base l p e R s m args below meth c x0 s0 o σe j (pc + len) ls (vl x.toInt64 :: st) σ) : iWG D base l p e R s m args below meth c x0 s0 o σe j pc ls (vi x :: st) σ := by
  obtain ⟨hd, hn⟩ := iDec h
  cases iLen1 hn
  intro H locs arr hR hO hL hA
  exact lv_i2l C.1 C.2.1 hd rfl (k H locs arr hR hO hL hA)

theorem sd_dup_i {x : Int32} (C : iCtx D p s m meth c j) (h : iC j pc = some (.dup, len))  (k : iWG D base l p e R s m args below meth c x0 s0 o σe j (pc + len) ls (vi x :: vi x :: st) σ) : iWG D base l p e R s m args below meth c x0 s0 o σe j pc ls (vi x :: st) σ := by
  obtain ⟨hd, hn⟩ := iDec h
  cases iLen1 hn
  intro H locs arr hR hO hL hA
  exact lv_dup C.1 C.2.1 hd rfl (k H locs arr hR hO hL hA)

theorem sd_dup_r {a : Nat} (C : iCtx D p s m meth c j) (h : iC j pc = some (.dup, len))  (k : iWG D base l p e R s m args below meth c x0 s0 o σe j (pc + len) ls (vr a :: vr a :: st) σ) : iWG D base l p e R s m args below meth c x0 s0 o σe j pc ls (vr a :: st) σ := by
  obtain ⟨hd, hn⟩ := iDec h
  cases iLen1 hn
  intro H locs arr hR hO hL hA
  exact lv_dup C.1 C.2.1 hd (cv_cat1 a) (k H locs arr hR hO hL hA)

theorem sd_dup2 {x : Int32} {a : Nat} (C : iCtx D p s m meth c j) (h : iC j pc = some (.dup2, len))  (k : iWG D base l p e R s m args below meth c x0 s0 o σe j (pc + len) ls (vi x :: vr a :: vi x :: vr a :: st) σ) : iWG D base l p e R s m args below meth c x0 s0 o σe j pc ls (vi x :: vr a :: st) σ := by
  obtain ⟨hd, hn⟩ := iDec h
  cases iLen1 hn
  intro H locs arr hR hO hL hA
  exact lv_dup2_11 C.1 C.2.1 hd rfl (cv_cat1 a) (k H locs arr hR hO hL hA)

theorem sd_pop_i {x : Int32} (C : iCtx D p s m meth c j) (h : iC j pc = some (.pop, len))  (k : iWG D base l p e R s m args below meth c x0 s0 o σe j (pc + len) ls (st) σ) : iWG D base l p e R s m args below meth c x0 s0 o σe j pc ls (vi x :: st) σ := by
  obtain ⟨hd, hn⟩ := iDec h
  cases iLen1 hn
  intro H locs arr hR hO hL hA
  exact lv_pop C.1 C.2.1 hd (va := .int x) rfl (k H locs arr hR hO hL hA)

theorem sd_pop_r {a : Nat} (C : iCtx D p s m meth c j) (h : iC j pc = some (.pop, len))  (k : iWG D base l p e R s m args below meth c x0 s0 o σe j (pc + len) ls (st) σ) : iWG D base l p e R s m args below meth c x0 s0 o σe j pc ls (vr a :: st) σ := by
  obtain ⟨hd, hn⟩ := iDec h
  cases iLen1 hn
  intro H locs arr hR hO hL hA
  exact lv_pop C.1 C.2.1 hd (cv_cat1 a) (k H locs arr hR hO hL hA)

theorem sd_goto {off : Int} {t : Nat} (C : iCtx D p s m meth c j) (h : iC j pc = some (.goto off, len)) (ht : (pc : Int) + off = (t : Int)) (k : iWG D base l p e R s m args below meth c x0 s0 o σe j t ls st σ) : iWG D base l p e R s m args below meth c x0 s0 o σe j pc ls st σ := by
  obtain ⟨hd, hn⟩ := iDec h
  cases iLen1 hn
  intro H locs arr hR hO hL hA
  exact lv_goto C.1 C.2.1 hd ht (k H locs arr hR hO hL hA)

theorem sd_if_eq {x : Int32} {off : Int} {t : Nat} (C : iCtx D p s m meth c j) (h : iC j pc = some (.ifCond .eq off, len)) (ht : (pc : Int) + off = (t : Int)) (k1 : x = 0 → iWG D base l p e R s m args below meth c x0 s0 o σe j t ls st σ) (k2 : ¬ (x = 0) → iWG D base l p e R s m args below meth c x0 s0 o σe j (pc + len) ls st σ) : iWG D base l p e R s m args below meth c x0 s0 o σe j pc ls (vi x :: st) σ := by
  obtain ⟨hd, hn⟩ := iDec h
  cases iLen1 hn
  intro H locs arr hR hO hL hA
  exact lv_if_eq C.1 C.2.1 hd ht (fun q => k1 q H locs arr hR hO hL hA) (fun q => k2 q H locs arr hR hO hL hA)

theorem sd_if_ne {x : Int32} {off : Int} {t : Nat} (C : iCtx D p s m meth c j) (h : iC j pc = some (.ifCond .ne off, len)) (ht : (pc : Int) + off = (t : Int)) (k1 : x ≠ 0 → iWG D base l p e R s m args below meth c x0 s0 o σe j t ls st σ) (k2 : ¬ (x ≠ 0) → iWG D base l p e R s m args below meth c x0 s0 o σe j (pc + len) ls st σ) : iWG D base l p e R s m args below meth c x0 s0 o σe j pc ls (vi x :: st) σ := by
  obtain ⟨hd, hn⟩ := iDec h
  cases iLen1 hn
  intro H locs arr hR hO hL hA
  exact lv_if_ne C.1 C.2.1 hd ht (fun q => k1 q H locs arr hR hO hL hA) (fun q => k2 (fun z => z q) H locs arr hR hO hL hA)

theorem sd_if_lt {x : Int32} {off : Int} {t : Nat} (C : iCtx D p s m meth c j) (h : iC j pc = some (.ifCond .lt off, len)) (ht : (pc : Int) + off = (t : Int)) (k1 : x < 0 → iWG D base l p e R s m args below meth c x0 s0 o σe j t ls st σ) (k2 : ¬ (x < 0) → iWG D base l p e R s m args below meth c x0 s0 o σe j (pc + len) ls st σ) : iWG D base l p e R s m args below meth c x0 s0 o σe j pc ls (vi x :: st) σ := by
  obtain ⟨hd, hn⟩ := iDec h
  cases iLen1 hn
  intro H locs arr hR hO hL hA
  exact lv_if_lt C.1 C.2.1 hd ht (fun q => k1 q H locs arr hR hO hL hA) (fun q => k2 q H locs arr hR hO hL hA)

theorem sd_if_ge {x : Int32} {off : Int} {t : Nat} (C : iCtx D p s m meth c j) (h : iC j pc = some (.ifCond .ge off, len)) (ht : (pc : Int) + off = (t : Int)) (k1 : 0 ≤ x → iWG D base l p e R s m args below meth c x0 s0 o σe j t ls st σ) (k2 : ¬ (0 ≤ x) → iWG D base l p e R s m args below meth c x0 s0 o σe j (pc + len) ls st σ) : iWG D base l p e R s m args below meth c x0 s0 o σe j pc ls (vi x :: st) σ := by
  obtain ⟨hd, hn⟩ := iDec h
  cases iLen1 hn
  intro H locs arr hR hO hL hA
  exact lv_if_ge C.1 C.2.1 hd ht (fun q => k1 q H locs arr hR hO hL hA) (fun q => k2 q H locs arr hR hO hL hA)

theorem sd_if_gt {x : Int32} {off : Int} {t : Nat} (C : iCtx D p s m meth c j) (h : iC j pc = some (.ifCond .gt off, len)) (ht : (pc : Int) + off = (t : Int)) (k1 : 0 < x → iWG D base l p e R s m args below meth c x0 s0 o σe j t ls st σ) (k2 : ¬ (0 < x) → iWG D base l p e R s m args below meth c x0 s0 o σe j (pc + len) ls st σ) : iWG D base l p e R s m args below meth c x0 s0 o σe j pc ls (vi x :: st) σ := by
  obtain ⟨hd, hn⟩ := iDec h
  cases iLen1 hn
  intro H locs arr hR hO hL hA
  exact lv_if_gt C.1 C.2.1 hd ht (fun q => k1 q H locs arr hR hO hL hA) (fun q => k2 q H locs arr hR hO hL hA)

theorem sd_if_le {x : Int32} {off : Int} {t : Nat} (C : iCtx D p s m meth c j) (h : iC j pc = some (.ifCond .le off, len)) (ht : (pc : Int) + off = (t : Int)) (k1 : x ≤ 0 → iWG D base l p e R s m args below meth c x0 s0 o σe j t ls st σ) (k2 : ¬ (x ≤ 0) → iWG D base l p e R s m args below meth c x0 s0 o σe j (pc + len) ls st σ) : iWG D base l p e R s m args below meth c x0 s0 o σe j pc ls (vi x :: st) σ := by
  obtain ⟨hd, hn⟩ := iDec h
  cases iLen1 hn
  intro H locs arr hR hO hL hA
  exact lv_if_le C.1 C.2.1 hd ht (fun q => k1 q H locs arr hR hO hL hA) (fun q => k2 q H locs arr hR hO hL hA)

theorem sd_icmp_eq {x y : Int32} {off : Int} {t : Nat} (C : iCtx D p s m meth c j) (h : iC j pc = some (.if_icmp .eq off, len)) (ht : (pc : Int) + off = (t : Int)) (k1 : x = y → iWG D base l p e R s m args below meth c x0 s0 o σe j t ls st σ) (k2 : ¬ (x = y) → iWG D base l p e R s m args below meth c x0 s0 o σe j (pc + len) ls st σ) : iWG D base l p e R s m args below meth c x0 s0 o σe j pc ls (vi y :: vi x :: st) σ := by
  obtain ⟨hd, hn⟩ := iDec h
  cases iLen1 hn
  intro H locs arr hR hO hL hA
  exact lv_icmp_eq C.1 C.2.1 hd ht (fun q => k1 q H locs arr hR hO hL hA) (fun q => k2 q H locs arr hR hO hL hA)

theorem sd_icmp_ne {x y : Int32} {off : Int} {t : Nat} (C : iCtx D p s m meth c j) (h : iC j pc = some (.if_icmp .ne off, len)) (ht : (pc : Int) + off = (t : Int)) (k1 : x ≠ y → iWG D base l p e R s m args below meth c x0 s0 o σe j t ls st σ) (k2 : ¬ (x ≠ y) → iWG D base l p e R s m args below meth c x0 s0 o σe j (pc + len) ls st σ) : iWG D base l p e R s m args below meth c x0 s0 o σe j pc ls (vi y :: vi x :: st) σ := by
  obtain ⟨hd, hn⟩ := iDec h
  cases iLen1 hn
  intro H locs arr hR hO hL hA
  exact lv_icmp_ne C.1 C.2.1 hd ht (fun q => k1 q H locs arr hR hO hL hA) (fun q => k2 (fun z => z q) H locs arr hR hO hL hA)

theorem sd_icmp_lt {x y : Int32} {off : Int} {t : Nat} (C : iCtx D p s m meth c j) (h : iC j pc = some (.if_icmp .lt off, len)) (ht : (pc : Int) + off = (t : Int)) (k1 : x < y → iWG D base l p e R s m args below meth c x0 s0 o σe j t ls st σ) (k2 : ¬ (x < y) → iWG D base l p e R s m args below meth c x0 s0 o σe j (pc + len) ls st σ) : iWG D base l p e R s m args below meth c x0 s0 o σe j pc ls (vi y :: vi x :: st) σ := by
  obtain ⟨hd, hn⟩ := iDec h
  cases iLen1 hn
  intro H locs arr hR hO hL hA
  exact lv_icmp_lt C.1 C.2.1 hd ht (fun q => k1 q H locs arr hR hO hL hA) (fun q => k2 q H locs arr hR hO hL hA)

theorem sd_icmp_ge {x y : Int32} {off : Int} {t : Nat} (C : iCtx D p s m meth c j) (h : iC j pc = some (.if_icmp .ge off, len)) (ht : (pc : Int) + off = (t : Int)) (k1 : y ≤ x → iWG D base l p e R s m args below meth c x0 s0 o σe j t ls st σ) (k2 : ¬ (y ≤ x) → iWG D base l p e R s m args below meth c x0 s0 o σe j (pc + len) ls st σ) : iWG D base l p e R s m args below meth c x0 s0 o σe j pc ls (vi y :: vi x :: st) σ := by
  obtain ⟨hd, hn⟩ := iDec h
  cases iLen1 hn
  intro H locs arr hR hO hL hA
  exact lv_icmp_ge C.1 C.2.1 hd ht (fun q => k1 q H locs arr hR hO hL hA) (fun q => k2 q H locs arr hR hO hL hA)

theorem sd_icmp_gt {x y : Int32} {off : Int} {t : Nat} (C : iCtx D p s m meth c j) (h : iC j pc = some (.if_icmp .gt off, len)) (ht : (pc : Int) + off = (t : Int)) (k1 : y < x → iWG D base l p e R s m args below meth c x0 s0 o σe j t ls st σ) (k2 : ¬ (y < x) → iWG D base l p e R s m args below meth c x0 s0 o σe j (pc + len) ls st σ) : iWG D base l p e R s m args below meth c x0 s0 o σe j pc ls (vi y :: vi x :: st) σ := by
  obtain ⟨hd, hn⟩ := iDec h
  cases iLen1 hn
  intro H locs arr hR hO hL hA
  exact lv_icmp_gt C.1 C.2.1 hd ht (fun q => k1 q H locs arr hR hO hL hA) (fun q => k2 q H locs arr hR hO hL hA)

theorem sd_icmp_le {x y : Int32} {off : Int} {t : Nat} (C : iCtx D p s m meth c j) (h : iC j pc = some (.if_icmp .le off, len)) (ht : (pc : Int) + off = (t : Int)) (k1 : x ≤ y → iWG D base l p e R s m args below meth c x0 s0 o σe j t ls st σ) (k2 : ¬ (x ≤ y) → iWG D base l p e R s m args below meth c x0 s0 o σe j (pc + len) ls st σ) : iWG D base l p e R s m args below meth c x0 s0 o σe j pc ls (vi y :: vi x :: st) σ := by
  obtain ⟨hd, hn⟩ := iDec h
  cases iLen1 hn
  intro H locs arr hR hO hL hA
  exact lv_icmp_le C.1 C.2.1 hd ht (fun q => k1 q H locs arr hR hO hL hA) (fun q => k2 q H locs arr hR hO hL hA)

theorem sd_ifnull {a : Nat} {off : Int} {t : Nat} (C : iCtx D p s m meth c j) (h : iC j pc = some (.ifnull off, len)) (ht : (pc : Int) + off = (t : Int)) (k1 : a = 0 → iWG D base l p e R s m args below meth c x0 s0 o σe j t ls st σ) (k2 : ¬ (a = 0) → iWG D base l p e R s m args below meth c x0 s0 o σe j (pc + len) ls st σ) : iWG D base l p e R s m args below meth c x0 s0 o σe j pc ls (vr a :: st) σ := by
  obtain ⟨hd, hn⟩ := iDec h
  cases iLen1 hn
  intro H locs arr hR hO hL hA
  by_cases ha : a = 0
  · subst ha
    exact lv_ifnullN C.1 C.2.1 hd ht (k1 rfl H locs arr hR hO hL hA)
  · rw [List.map_cons, cv_r ha]
    exact lv_ifnull C.1 C.2.1 hd (k2 ha H locs arr hR hO hL hA)
theorem sd_ifnonnull {a : Nat} {off : Int} {t : Nat} (C : iCtx D p s m meth c j) (h : iC j pc = some (.ifnonnull off, len)) (ht : (pc : Int) + off = (t : Int)) (k1 : a ≠ 0 → iWG D base l p e R s m args below meth c x0 s0 o σe j t ls st σ) (k2 : ¬ (a ≠ 0) → iWG D base l p e R s m args below meth c x0 s0 o σe j (pc + len) ls st σ) : iWG D base l p e R s m args below meth c x0 s0 o σe j pc ls (vr a :: st) σ := by
  obtain ⟨hd, hn⟩ := iDec h
  cases iLen1 hn
  intro H locs arr hR hO hL hA
  by_cases ha : a = 0
  · subst ha
    exact lv_ifnonnullN C.1 C.2.1 hd (k2 (fun q => q rfl) H locs arr hR hO hL hA)
  · rw [List.map_cons, cv_r ha]
    exact lv_ifnonnull C.1 C.2.1 hd ht (k1 ha H locs arr hR hO hL hA)
theorem sd_tableO {d lo hi : Int} {offs : Array Int} {x : Int32} {t : Nat} (C : iCtx D p s m meth c j) (h : iC j pc = some (.tableswitch d lo hi offs, len)) (hx : x.toInt < lo ∨ hi < x.toInt) (ht : (pc : Int) + d = (t : Int)) (k : iWG D base l p e R s m args below meth c x0 s0 o σe j t ls st σ) : iWG D base l p e R s m args below meth c x0 s0 o σe j pc ls (vi x :: st) σ := by
  obtain ⟨hd, hn⟩ := iDec h
  intro H locs arr hR hO hL hA
  exact lv_tableOut C.1 C.2.1 hd hx ht (k H locs arr hR hO hL hA)
theorem sd_tableI {d lo hi off : Int} {offs : Array Int} {x : Int32} {t : Nat} (C : iCtx D p s m meth c j) (h : iC j pc = some (.tableswitch d lo hi offs, len)) (hx : ¬ (x.toInt < lo ∨ hi < x.toInt)) (ho : offs[(x.toInt - lo).toNat]? = some off) (ht : (pc : Int) + off = (t : Int)) (k : iWG D base l p e R s m args below meth c x0 s0 o σe j t ls st σ) : iWG D base l p e R s m args below meth c x0 s0 o σe j pc ls (vi x :: st) σ := by
  obtain ⟨hd, hn⟩ := iDec h
  intro H locs arr hR hO hL hA
  exact lv_tableIn C.1 C.2.1 hd (fun q => hx (Or.inl q)) (fun q => hx (Or.inr q)) ho ht (k H locs arr hR hO hL hA)
theorem sd_lookup {d : Int} {ps : Array (Int × Int)} {x : Int32} {t : Nat} (C : iCtx D p s m meth c j) (h : iC j pc = some (.lookupswitch d ps, len)) (hp : (ps.toList.zip (ps.toList.drop 1)).all (fun (a, next) => a.1 < next.1) = true) (ht : (pc : Int) + Op.lookupswitch.offset ps.toList d x.toInt = (t : Int)) (k : iWG D base l p e R s m args below meth c x0 s0 o σe j t ls st σ) : iWG D base l p e R s m args below meth c x0 s0 o σe j pc ls (vi x :: st) σ := by
  obtain ⟨hd, hn⟩ := iDec h
  intro H locs arr hR hO hL hA
  exact lv_lookup C.1 C.2.1 hd hp rfl ht (k H locs arr hR hO hL hA)
theorem sd_lcmp {x y : Int64} (C : iCtx D p s m meth c j) (h : iC j pc = some (.lcmp, len)) (k : ∀ r : Int32, (x = y → r = 0) → (¬ x = y → x < y → r = -1) → (¬ x = y → ¬ x < y → r = 1) → iWG D base l p e R s m args below meth c x0 s0 o σe j (pc + len) ls (vi r :: st) σ) : iWG D base l p e R s m args below meth c x0 s0 o σe j pc ls (vl y :: vl x :: st) σ := by
  obtain ⟨hd, hn⟩ := iDec h
  cases iLen1 hn
  intro H locs arr hR hO hL hA
  refine W.lcmp C.1 C.2.1 hd (k (lg_cmp x y) (fun q => ?_) (fun q1 q2 => ?_) (fun q1 q2 => ?_) H locs arr hR hO hL hA)
  · subst q
    have h0 : ¬ x < x := by rw [Int64.lt_iff_toInt_lt]; omega
    simp [lg_cmp, h0]
  · have h0 : ¬ y < x := by rw [Int64.lt_iff_toInt_lt] at q2 ⊢; omega
    simp [lg_cmp, h0, q1]
  · have h0 : y < x := by
      have h1 : ¬ x.toInt = y.toInt := fun z => q1 (Int64.toInt_inj.mp z)
      rw [Int64.lt_iff_toInt_lt] at q2 ⊢; omega
    simp [lg_cmp, h0]
end SD
