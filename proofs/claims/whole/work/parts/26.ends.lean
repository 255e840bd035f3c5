/-! ANSWERS, Object's constructor, throws. -/
theorem koi_i : Cond.instanceMethod objectInit ∈ lw_tbl := List.mem_of_getElem? (i := 61) (by decide +kernel)
theorem koi_c : Cond.code objectInit ⟨#[0xb1]⟩ 1 none ∈ lw_tbl := List.mem_of_getElem? (i := 62) (by decide +kernel)
section EN
variable {D : iD} {base : Nat} {l : Launch} {p : Program} {e : Env} {R : Room} {s : State} {m : MethodId} {args : Array Value} {below : List Frame} {meth : Method} {c : Code} {x0 s0 : Nat} {o : iO} {σe : iS} {j pc len : Nat} {ls st : List iV} {σ : iS}
theorem iMQ {Qc : Array Value → State → Outcome → State → Prop} {H : Heap} {locs : List Loc} {cells slots cc ss : Nat} {free : Addr → Prop} {g : JFrame} (k : W p l e R s m args below meth c H locs cells slots (MQ below Qc args s cc ss free) g) (hf : ∀ q, free q → base ≤ q) (hq : ∀ oc t, Qc args s oc t → iOut o oc ∧ iThC o s t ∧ iRel D base σe t.heap) : W p l e R s m args below meth c H locs cells slots (iEnd D base below s o σe cc ss) g := by
  intro T hT X
  obtain ⟨t, a1, oc, b1, b2, b3, L, ⟨-, hW, hsm⟩, hL⟩ := k T hT X
  obtain ⟨c1, c2, c3⟩ := hq oc t b3
  exact ⟨t, a1, oc, b1, b2, c1, c2, c3, hW, L, hsm, fun z hz => hf _ (hL z hz)⟩
theorem sd_iret {x : Int32} (C : iCtx D p s m meth c j) (h : iC j pc = some (.ireturn, len)) (hx : mR j = true → iBool x) : iWG D base l p e R s m args below meth c x0 s0 (.inl (some (vi x))) σ j pc ls [vi x] σ := by
  obtain ⟨hd, hn⟩ := iDec h
  cases iLen1 hn
  have hok : iRtOk j .ireturn = true := iOkA h
  intro H locs arr hR hO hL hA
  obtain ⟨cx, cb, cr, cl, co, -, -, ct, cK, -⟩ := C
  obtain ⟨ty, hty, hnr⟩ : ∃ ty, iRt j = some ty ∧ narrow ty (.int x) = .int x := by
    unfold iRtOk at hok
    cases hr : iRt j with
    | none => rw [hr] at hok; cases hok
    | some ty =>
      rw [hr] at hok
      cases ty with
      | int => exact ⟨_, rfl, rfl⟩
      | boolean => exact ⟨_, rfl, by rcases hx hok with rfl | rfl <;> rfl⟩
      | _ => cases hok
  exact iMQ (W.zret (Qc := fun _ _ oc t => oc = .returned (some (.int x)) ∧ t.heap = H) (free := fun q => base ≤ q) cx cb (cr.trans hty) hnr (fun t ht _ => ⟨rfl, ht⟩) hL hd cl) (fun _ h => h) (fun oc t h => ⟨h.1, trivial, by rw [h.2]; exact hR⟩)
theorem sd_aret {a : Nat} (C : iCtx D p s m meth c j) (h : iC j pc = some (.areturn, len)) : iWG D base l p e R s m args below meth c x0 s0 (.inl (some (vr a))) σ j pc ls [vr a] σ := by
  obtain ⟨hd, hn⟩ := iDec h
  cases iLen1 hn
  have hok : iRtOk j .areturn = true := iOkA h
  intro H locs arr hR hO hL hA
  obtain ⟨cx, cb, cr, cl, co, -, -, ct, cK, -⟩ := C
  obtain ⟨ty, hty, hrt⟩ : ∃ ty, iRt j = some ty ∧ ((∃ n, ty = .object n) ∨ ∃ t, ty = .array t) := by
    unfold iRtOk at hok
    cases hr : iRt j with
    | none => rw [hr] at hok; cases hok
    | some ty =>
      rw [hr] at hok
      cases ty with
      | object n => exact ⟨_, rfl, Or.inl ⟨n, rfl⟩⟩
      | array t => exact ⟨_, rfl, Or.inr ⟨t, rfl⟩⟩
      | _ => cases hok
  have hv : cv (vr a) = .null ∨ ∃ b, cv (vr a) = .ref b := by
    by_cases ha : a = 0
    · subst ha; exact Or.inl rfl
    · exact Or.inr ⟨_, cv_r ha⟩
  exact iMQ (W.aret (Qc := fun _ _ oc t => oc = .returned (some (cv (vr a))) ∧ t.heap = H) (free := fun q => base ≤ q) cx cb (cr.trans hty) hrt hv (fun t ht _ => ⟨rfl, ht⟩) hL hd cl) (fun _ h => h) (fun oc t h => ⟨h.1, trivial, by rw [h.2]; exact hR⟩)
theorem sd_vret (C : iCtx D p s m meth c j) (h : iC j pc = some (.return_, len)) : iWG D base l p e R s m args below meth c x0 s0 (.inl none) σ j pc ls [] σ := by
  obtain ⟨hd, hn⟩ := iDec h
  cases iLen1 hn
  have hok : iRtOk j .return_ = true := iOkA h
  intro H locs arr hR hO hL hA
  obtain ⟨cx, cb, cr, cl, co, -, -, ct, cK, -⟩ := C
  have hty : iRt j = none := by
    unfold iRtOk at hok
    cases hr : iRt j with
    | none => rfl
    | some ty => rw [hr] at hok; cases hok
  exact iMQ (W.vret (Qc := fun _ _ oc t => oc = .returned none ∧ t.heap = H) (free := fun q => base ≤ q) cx cb (cr.trans hty) (fun t ht _ => ⟨rfl, ht⟩) hL hd cl) (fun _ h => h) (fun oc t h => ⟨h.1, trivial, by rw [h.2]; exact hR⟩)
theorem sd_oinit {k a n r : Nat} (C : iCtx D p s m meth c j) (h : iC j pc = some (.invokespecial k, len)) (hM : pM (mO j) k = some (999, n, r)) (hf : rF j ≤ R.frames) (hl : rL j ≤ R.locals) (hs : isum st ≤ 8) (ha : a ≠ 0) (kk : iWG D base l p e R s m args below meth c x0 s0 o σe j (pc + len) ls st σ) : iWG D base l p e R s m args below meth c x0 s0 o σe j pc ls (vr a :: st) σ := by
  obtain ⟨hd, hn⟩ := iDec h
  cases iLen1 hn
  have hok : iClOk j 2 k = true := iOkA h
  unfold iClOk at hok
  rw [hM] at hok
  have hok2 : (Nat.beq 2 2 && Nat.ble 1 (rF j) && Nat.ble 20 (rL j)) = true := hok
  rw [Bool.and_eq_true, Bool.and_eq_true] at hok2
  have h1 := Nat.le_of_ble_eq_true hok2.1.2
  have h2 := Nat.le_of_ble_eq_true hok2.2
  intro H locs arr hR hO hL hA
  obtain ⟨cx, cb, -, -, co, cm, -, ct, cK, -⟩ := C
  rw [List.map_cons, cv_r ha]
  have hlk : Cond.methodLink (iOw j) k objectInit ∈ lw_tbl := by
    rcases iMx hM with ⟨-, h⟩ | ⟨h, -⟩
    · exact h
    · omega
  refine W.objInit cx cb co (ct.use hlk rfl args) (ct.use koi_i rfl args) (ct.use koi_c rfl args) rfl (by rw [cm]; exact hA.1) rfl hd (by omega) ?_ (kk H locs arr hR hO hL hA)
  rw [isum_cat]
  show 2 * 0 + _ + 12 ≤ _
  omega
/-- 'throw new E(text)', with the state behind it as it is -/
theorem iq_throw {Q : State → Prop} {H : Heap} {locs : List Loc} {cells slots : Nat} {arr : Array Slot} {rest : List Value} {cc : ByteArray} (hexec : p.tables.exec = Jvm.exec) (hb : c.code = cc) (hl : l.stackTraces = false) {own cls text : String} {names : List String} {ik is ic sa : Nat} {A : Nat → Prop}
    (hown : s.vm.findClass own = some m.cls) (hcls : Bundle.fit cls = true) (hnames : ∀ n ∈ names, Bundle.fit n = true)
    (hk : (Cond.classLink own ik cls).before args s = true) (hini : (Cond.initialized cls).before args s = true) (hstr : vk_R own is text sa s) (hat : ∀ w ∈ vx_atS own ic cls names, w.before args s = true)
    (hgood : ∀ w ∈ Cond.classLink own ik cls :: Cond.initialized cls :: vx_atS own ic cls names, vx_ot w = true)
    (hU : vx_Zq Bundle.tN "UNASSIGNED_STACK" Bundle.steD A s s.heap) (hN : vx_Zq Bundle.tN "SUPPRESSED_SENTINEL" Bundle.listD A s s.heap) (hS : va_S A s.heap H locs) (hsize : arr.size = c.maxLocals)
    (d0 : decode cc pc = .ok (.new ik, 3)) (d3 : decode cc (pc + 3) = .ok (.dup, 1)) (d4 : decode cc (pc + 4) = .ok (.ldc is, 2)) (d6 : decode cc (pc + 6) = .ok (.invokespecial ic, 3)) (d9 : decode cc (pc + 9) = .ok (.athrow, 1))
    (hout : ∀ x ∈ c.exceptionTable.toList, covers x (pc + 9) = false)
    (hRframes : names.length + 3 < R.frames) (hRlocals : (rest.map fun v => v.category).sum + (13 * (names.length + 1) + 43) ≤ R.locals) (hRcells : cells + 1 ≤ R.cells) (hRslots : slots + 6 ≤ R.slots) (hlocks : meth.locks = false)
    (hQ : ∀ U : State, U.status = .running → Ended U below (.threw H.size) → s.WarmedH U.vm → s.sameButNew ({ U with vm := s.vm } : State) locs (cells + 1) (slots + 6) → U.heap.size = H.size + 1 → (∀ q : Nat, q < H.size → U.heap[q]? = H[q]?) → (∃ ce : Cell, U.heap[H.size]? = some ce ∧ ce.vm = .none ∧ s.vm.findClass cls = some ce.cls) → Q U) :
    W p l e R s m args below meth c H locs cells slots Q (F0 m pc arr rest) := by
  intro T hT X
  have htr : e.platform.stackTraces = false := (show e.platform.stackTraces = l.stackTraces by rw [X.admits.platform]).trans hl
  have Y := vx_rebase X (R' := { frames := R.frames, locals := R.locals, cells := 1, slots := 6 }) (Nat.le_refl _) (Nat.le_refl _) hRcells hRslots
  obtain ⟨s', hA⟩ : ∃ z, z = (T.setVm s.vm).setFrames (.invoking m args :: below) := ⟨_, rfl⟩
  rw [← hA] at Y
  have hvm : s'.vm = s.vm := by rw [hA]; rfl
  have hhp : s'.heap = H := by rw [hA]; exact hT
  have hW0 : s.WarmedH s'.vm := by rw [hvm]; exact State.WarmedH.refl s
  have hat' : ∀ w ∈ vx_atS own ic cls names, w.before args s' = true := fun w hw => vx_ot_at hW0 hvm.symm (hgood w (List.mem_cons_of_mem _ (List.mem_cons_of_mem _ hw))) (hat w hw)
  have hk' : (Cond.classLink own ik cls).before args s' = true := vx_ot_at hW0 hvm.symm (hgood _ List.mem_cons_self) hk
  have hini' : (Cond.initialized cls).before args s' = true := vx_ot_at hW0 hvm.symm (hgood _ (List.mem_cons_of_mem _ List.mem_cons_self)) hini
  have hU' : vx_Zq Bundle.tN "UNASSIGNED_STACK" Bundle.steD A s' s'.heap := by rw [hhp]; exact vx_Zq.moved hW0.alike (hU.kept hS.2.1)
  have hN' : vx_Zq Bundle.tN "SUPPRESSED_SENTINEL" Bundle.listD A s' s'.heap := by rw [hhp]; exact vx_Zq.moved hW0.alike (hN.kept hS.2.1)
  have h : ∀ w ∈ Bundle.ownAtoms own ic cls names, w.before args s' = true := vx_own hat' (vx_isRefq hU'.1) (vx_isRefq hN'.1) hU'.2.word hN'.2.word
  have hown' : s'.vm.findClass own = some m.cls := by rw [hvm]; exact hown
  have hins : (Cond.instantiable cls 6).before args s' = true := h _ (by simp [Bundle.ownAtoms])
  obtain ⟨vm₁, cX, kX, hfX, hkX, -, -, X₁, st1⟩ := Y.newCold hexec (own := own) (C := cls) (index := ik) (n := 6) hown' hk' hins hini'
    (g := F0 m pc arr rest) rfl (by rw [hb]; exact d0) (Nat.le_refl _) (Nat.le_refl _)
  generalize hT1 : (T.setVm vm₁).pushCell { cls := cX, slots := kX.instanceTypes.map defaultValue, vm := .none } = T1 at X₁ st1
  have hcat : (Value.ref T.heap.size).category = 1 := rfl
  have hcellA : T1.heap[T.heap.size]? = some (freshCell cX kX) := by rw [← hT1]; exact State.heap_pushCell_size _ _
  have d3' : decode c.code (pc + 3) = .ok (.dup, 1) := by rw [hb]; exact d3
  have d4' : decode c.code (pc + 4) = .ok (.ldc is, 2) := by rw [hb]; exact d4
  have hstr' : vk_R own is text sa s' := vk_R.warm hW0 hstr
  obtain ⟨U, hsteps, hrun, hend, hW, hsame, ce, hce, hO⟩ := X₁.ctorThrowS hexec htr (own := own) (cls := cls) (names := names) (ic := ic) hown' hcls hnames h (fun x hx => nomatch hx) hfX hkX hcellA (by rw [hhp, hT]; exact Nat.le_refl _) (msg := .ref sa) rfl
    (g := { method := m, pc := pc + 6, locals := arr, stack := .ref sa :: .ref T.heap.size :: .ref T.heap.size :: rest, locked := none }) rfl hsize rfl rfl (rest := rest) rfl
    (by rw [hb]; exact d6) (by rw [hb]; exact d9) hout hRframes (by simp only [List.map_cons, List.sum_cons, hcat]; omega) hlocks
  obtain ⟨f1, f2⟩ := vx_frame hsame
  rw [hhp] at f1 f2
  have hWs : s.WarmedH U.vm := State.WarmedH.trans hW0 hW
  have hcl : s.vm.findClass cls = some ce.cls := by
    have h9 := hO.cls
    rw [hvm] at h9
    exact h9
  have hsz : U.heap.size ≤ H.size + (0 + 1) := by
    have h9 : ({ U with vm := s'.vm } : State).heap.size ≤ s'.heap.size + (0 + 1) := hsame.2.2.1
    rw [hhp] at h9
    exact h9
  have hall : s.sameButNew ({ U with vm := s.vm } : State) locs (cells + 1) (slots + 6) := by
    subst hA
    obtain ⟨e1, e2⟩ := hsame
    rw [State.setFrames_setFrames] at e1
    have h2 : (T.setVm s.vm).sameButNew ({ U with vm := s.vm } : State) [] (0 + 1) (0 + 6) := ⟨e1, e2⟩
    have h3 := X.same.trans h2
    rw [List.append_nil] at h3
    exact h3.mono (by omega) (by omega)
  rw [hT] at hce hend
  have hlt : H.size < U.heap.size := (Array.getElem?_eq_some_iff.mp hce).1
  refine ⟨U, ?_, hQ U hrun hend hWs hall (by omega) (fun q hq => f2 q hq (fun z hz => nomatch hz)) ⟨ce, hce, hO.vm, hcl⟩⟩
  refine st1 _ ?_
  show Steps p.tables e below (T1.setTop { method := m, pc := pc + 3, locals := arr, stack := .ref T.heap.size :: rest, locked := none }) _
  jvm_step X₁.here [X₁.here.top, hexec, d3', Value.category]
  exact X₁.ldcString hexec (own := own) (text := text) (index := is) (a := sa) hown' hstr'.1 hstr'.2
    (g := { method := m, pc := pc + 4, locals := arr, stack := .ref T.heap.size :: .ref T.heap.size :: rest, locked := none }) rfl d4' _ hsteps
end EN
