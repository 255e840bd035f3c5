/-! THROWS AND CALLS over the real machine. -/
set_option maxRecDepth 20000 in
theorem kth_1 : ∀ w ∈ vx_atS "TextVerbs" 46 (iEx 1) iNm, w ∈ lw_tbl ∧ iGW w = true := by decide +kernel
set_option maxRecDepth 20000 in
theorem kth_2 : ∀ w ∈ vx_atS "TextVerbs" 57 (iEx 2) iNm, w ∈ lw_tbl ∧ iGW w = true := by decide +kernel
set_option maxRecDepth 20000 in
theorem kth_g1 : ∀ w ∈ Cond.classLink "TextVerbs" 42 (iEx 1) :: Cond.initialized (iEx 1) :: vx_atS "TextVerbs" 46 (iEx 1) iNm, vx_ot w = true := by decide +kernel
set_option maxRecDepth 20000 in
theorem kth_g2 : ∀ w ∈ Cond.classLink "TextVerbs" 53 (iEx 2) :: Cond.initialized (iEx 2) :: vx_atS "TextVerbs" 57 (iEx 2) iNm, vx_ot w = true := by decide +kernel
set_option maxRecDepth 20000 in
theorem kth_c1 : Cond.classLink "TextVerbs" 42 (iEx 1) ∈ lw_tbl := by decide +kernel
set_option maxRecDepth 20000 in
theorem kth_c2 : Cond.classLink "TextVerbs" 53 (iEx 2) ∈ lw_tbl := by decide +kernel
set_option maxRecDepth 20000 in
theorem kth_i1 : Cond.initialized (iEx 1) ∈ lw_tbl := by decide +kernel
set_option maxRecDepth 20000 in
theorem kth_i2 : Cond.initialized (iEx 2) ∈ lw_tbl := by decide +kernel
theorem kth_f1 : Bundle.fit (iEx 1) = true := by decide +kernel
theorem kth_f2 : Bundle.fit (iEx 2) = true := by decide +kernel
theorem kth_fn : ∀ n ∈ iNm, Bundle.fit n = true := by decide +kernel
/-- what is known of the start besides the tables: two statics of Throwable, the texts, which exception is not which -/
def iKx (base : Nat) (s : State) : Prop := vx_Zq Bundle.tN "UNASSIGNED_STACK" Bundle.steD (fun q => base ≤ q) s s.heap ∧ vx_Zq Bundle.tN "SUPPRESSED_SENTINEL" Bundle.listD (fun q => base ≤ q) s s.heap ∧ (∀ q ∈ iStrs, ∃ sa, vk_R "TextVerbs" q.1 q.2 sa s) ∧ va_Nc (iEx 1) (iEx 2) s ∧ va_Nc (iEx 2) (iEx 1) s
def iKy (D : iD) (base : Nat) (s : State) : Prop := iTw s ∧ va_K D.1 vwC (iTys D) s ∧ iKx base s ∧ ArrOfT s (D.2.2.2.2 0) .int
theorem iKy.moved {D : iD} {base : Nat} {s U : State} (h : iKy D base s) (hW : s.WarmedH U.vm) (hq : ∀ q : Nat, q < base → U.heap[q]? = s.heap[q]?) : iKy D base U := by
  obtain ⟨h1, h2, ⟨h3, h4, h5, h6, h7⟩, h8⟩ := h
  have k : ∀ a : Nat, a < s.heap.size → ¬ base ≤ a → U.heap[a]? = s.heap[a]? := fun a _ ha => hq a (by omega)
  refine ⟨h1.moved hW, h2.moved hW.alike, ⟨(h3.kept k).moved hW.alike, (h4.kept k).moved hW.alike, fun q hq => ?_, h6.moved hW.alike, h7.moved hW.alike⟩, arrOfT_moved hW.alike h8⟩
  obtain ⟨sa, hs⟩ := h5 q hq
  exact ⟨sa, vk_R.warm hW hs⟩
section CL
variable {D : iD} {base : Nat} {l : Launch} {p : Program} {e : Env} {R : Room} {s : State} {m : MethodId} {args : Array Value} {below : List Frame} {meth : Method} {c : Code} {x0 s0 : Nat} {o : iO} {σe : iS} {j pc len : Nat} {ls st : List iV} {σ : iS}
theorem sd_throw {k x : Nat} (C : iCtx D p s m meth c j) (hl : l.stackTraces = false) (Kx : iKx base s) (h : iC j pc = some (.new k, len)) (hE : mE j pc = some x) (hst : isum st ≤ 8) (hf : rF j ≤ R.frames) (hlo : rL j ≤ R.locals) (hz : s.heap.size + 1 = x0) (hx0 : x0 ≤ sX σ) (hs0 : s0 ≤ sS σ) (hc : sX σ - x0 + 1 ≤ R.cells) (hs : sS σ - s0 + 6 ≤ R.slots) :
    iWG D base l p e R s m args below meth c x0 s0 (.inr (x, sX σ)) (nO σ (200 + x) 6) j pc ls st σ := by
  obtain ⟨hd, hn⟩ := iDec h
  cases iLen1 hn
  have hok : iThOk j pc k = true := iOkA h
  unfold iThOk at hok
  rw [hE] at hok
  simp only [Bool.and_eq_true] at hok
  obtain ⟨⟨⟨⟨a1, a2⟩, a3⟩, a4⟩, a5⟩ := hok
  have a1 := Nat.le_of_ble_eq_true a1
  have a2 := Nat.le_of_ble_eq_true a2
  have a4 := Nat.eq_of_beq_eq_true a4
  intro H locs arr hR hO hL hA
  obtain ⟨cx, cb, -, cl, co, cm, -, ct, cK, ce, -⟩ := C
  have hown : iOw j = "TextVerbs" := by unfold iOw; rw [a4]; rfl
  rw [hown] at co
  have hh : iHh j = [] := List.isEmpty_iff.mp a3
  rw [hh] at ce
  split at a5
  · next z ic q3 q4 q6 q9 =>
    rw [Bool.and_eq_true] at a5
    obtain ⟨b1, b2⟩ := a5
    obtain ⟨sq, hsq, hsz⟩ := List.any_eq_true.mp b1
    have hsz := Nat.eq_of_beq_eq_true hsz
    obtain ⟨sa, hsa⟩ := Kx.2.2.1 sq hsq
    rw [hsz] at hsa
    have hS : va_S (fun q => base ≤ q) s.heap H locs := ⟨by have := hR.1; omega, fun q hq1 hq2 => hO q (by omega), hL⟩
    have hout : ∀ y ∈ c.exceptionTable.toList, covers y (pc + 9) = false := fun y hy => by rw [ce] at hy; cases hy
    have hrl : ((st.map cv).map fun v => v.category).sum + (13 * (iNm.length + 1) + 43) ≤ R.locals := by
      rw [isum_cat]
      show _ + (13 * (2 + 1) + 43) ≤ _
      omega
    have hrf : iNm.length + 3 < R.frames := by show 2 + 3 < _; omega
    have fin : ∀ U : State, U.status = .running → Ended U below (.threw H.size) → s.WarmedH U.vm → s.sameButNew ({ U with vm := s.vm } : State) locs (sX σ - x0 + 1) (sS σ - s0 + 6) → U.heap.size = H.size + 1 → (∀ q : Nat, q < H.size → U.heap[q]? = H[q]?) → (∃ ce : Cell, U.heap[H.size]? = some ce ∧ ce.vm = .none ∧ s.vm.findClass (iEx x) = some ce.cls) → iEnd D base below s (.inr (x, sX σ)) (nO σ (200 + x) 6) (sX (nO σ (200 + x) 6) - x0) (sS (nO σ (200 + x) 6) - s0) U := by
      intro U w1 w2 w3 w4 w5 w6 w7
      rw [show H.size = sX σ - 1 by have := hR.1; omega] at w2 w7
      have e1 : sX σ - x0 + 1 = sX (nO σ (200 + x) 6) - x0 := by show _ = sX σ + 1 - x0; omega
      have e2 : sS σ - s0 + 6 = sS (nO σ (200 + x) 6) - s0 := by show _ = sS σ + 6 - s0; omega
      rw [e1, e2] at w4
      exact ⟨.threw (sX σ - 1), w1, w2, rfl, ⟨by have := hR.2.1; have := hR.2.2.1; omega, w7⟩, hR.new (σ' := nO σ (200 + x) 6) rfl (by simp [sK, nO, u1]; omega) (fun b hb => iSame_nO hb) w5 w6 (iAt_200 (q := x) (by simp [sK, nO, u1])), w3, locs, w4, hL⟩
    rw [Bool.or_eq_true] at b2
    rcases b2 with b2 | b2
    · rw [Bool.and_eq_true, Bool.and_eq_true] at b2
      obtain ⟨⟨e1, e2⟩, e3⟩ := b2
      cases Nat.eq_of_beq_eq_true e1
      cases Nat.eq_of_beq_eq_true e2
      cases Nat.eq_of_beq_eq_true e3
      exact iq_throw cx cb hl co kth_f1 kth_fn (ct.use kth_c1 rfl args) (ct.use kth_i1 rfl args) hsa (fun w hw => ct.use (kth_1 w hw).1 (kth_1 w hw).2 args) kth_g1 Kx.1 Kx.2.1 hS (by rw [cm]; exact hA.1) hd (iDec q3).1 (iDec q4).1 (iDec q6).1 (iDec q9).1 hout hrf hrl hc hs cl fin
    · rw [Bool.and_eq_true, Bool.and_eq_true] at b2
      obtain ⟨⟨e1, e2⟩, e3⟩ := b2
      cases Nat.eq_of_beq_eq_true e1
      cases Nat.eq_of_beq_eq_true e2
      cases Nat.eq_of_beq_eq_true e3
      exact iq_throw cx cb hl co kth_f2 kth_fn (ct.use kth_c2 rfl args) (ct.use kth_i2 rfl args) hsa (fun w hw => ct.use (kth_2 w hw).1 (kth_2 w hw).2 args) kth_g2 Kx.1 Kx.2.1 hS (by rw [cm]; exact hA.1) hd (iDec q3).1 (iDec q4).1 (iDec q6).1 (iDec q9).1 hout hrf hrl hc hs cl fin
  · cases a5
/-! contracts -/
def iRm (j mc ms : Nat) : Room := { frames := rF j, cells := mc, slots := ms, locals := rL j }
def iPc (D : iD) (base : Nat) (as : List iV) (σ : iS) : Array Value → State → Prop := fun a U => a = (as.map cv).toArray ∧ iKy D base U ∧ iRel D base σ U.heap
def iQc (D : iD) (base : Nat) (o : iO) (σ σ' : iS) : Array Value → State → Outcome → State → Prop := fun _ t0 oc t => iOut o oc ∧ iThC o t0 t ∧ iRel D base σ' t.heap ∧ t0.WarmedH t.vm ∧ ∃ L, t0.sameButNew ({ t with vm := t0.vm } : State) L (sX σ' - sX σ) (sS σ' - sS σ) ∧ ∀ z ∈ L, base ≤ z.base
/-- the call of method j with as at σ ends with o, σ' -/
def iMt (D : iD) (base : Nat) (l : Launch) (j : Nat) (as : List iV) (σ : iS) (o : iO) (σ' : iS) : Prop := MetFree l (iY j) (headSpec [iCW j] (iRm j (sX σ' - sX σ) (sS σ' - sS σ))) (iPc D base as σ) (fun _ _ _ _ _ => True) (iQc D base o σ σ')
def iPre (D : iD) (base : Nat) (R : Room) (as : List iV) (σ σ' : iS) : Pt → Array Value → Prop := fun A a => A.cells + (sX σ' - sX σ) ≤ R.cells ∧ A.slots + (sS σ' - sS σ) ≤ R.slots ∧ a = (as.map cv).toArray ∧ iKy D base A.U ∧ iRel D base σ A.U.heap
def iBeh (D : iD) (base : Nat) (σ σ' : iS) (A B : Pt) : Prop := iRel D base σ' B.U.heap ∧ (∀ q : Nat, q < base → B.U.heap[q]? = A.U.heap[q]?) ∧ (∃ L, B.locs = A.locs ++ L ∧ ∀ z ∈ L, base ≤ z.base) ∧ B.cells = A.cells + (sX σ' - sX σ) ∧ B.slots = A.slots + (sS σ' - sS σ)
def iPost (D : iD) (base : Nat) (o : iO) (σ σ' : iS) : Pt → Array Value → Option Value → Pt → Prop := fun A _ v B => iOut o (.returned v) ∧ iBeh D base σ σ' A B
def iPostX (D : iD) (base : Nat) (o : iO) (σ σ' : iS) : Pt → Array Value → Addr → Pt → Prop := fun A _ q B => iOut o (.threw q) ∧ (∃ t : State, iThC o A.U t ∧ t.heap = B.U.heap) ∧ iBeh D base σ σ' A B
theorem iBack {sargs : Array Value} {as : List iV} {σ' : iS} (hM : iMt D base l j as σ o σ') (hframes : rF j + 1 ≤ R.frames) (hlocals : 8 + (mL j + 11) + rL j ≤ R.locals) (hco : iCW j ∈ lw_tbl) (hini : Cond.initialized (iY j).cls ∈ lw_tbl) :
    vx_Back l R p e below s sargs (iY j) 3 8 (iPre D base R as σ σ') (iPost D base o σ σ') (iPostX D base o σ σ') := by
  intro m meth c A g ig mk a X hg hsize hdg hW hn hp
  obtain ⟨h4, h5, hav, hKy, hRel⟩ := hp
  obtain ⟨U, Ls, c0, s0⟩ := A
  dsimp only [Pt.U, Pt.locs, Pt.cells, Pt.slots] at h4 h5 hKy hRel X hn ⊢
  have hcw : iCW j ∈ lw_tbl ∧ iGW (iCW j) = true := ⟨hco, iCW_g j⟩
  have h1 : (headSpec [iCW j] (iRm j (sX σ' - sX σ) (sS σ' - sS σ))).pre.before a U = true := atoms_intro fun w hw => by
    rw [List.mem_singleton.mp hw]; exact hKy.1.use hcw.1 hcw.2 a
  have h3 : (Cond.initialized (iY j).cls).before a U = true := hKy.1.use hini rfl a
  obtain ⟨methY, cY, hmY, hcY, hlY⟩ : ∃ (methY : Method) (cY : Code), U.vm.method? mk = some methY ∧ methY.code = some cY ∧ cY.maxLocals = mL j := by
    have h2 := hKy.1.use hcw.1 hcw.2 a
    unfold iCW at h2
    split at h2
    · obtain ⟨methY, cY, hmY, hcY, -, hlY, -⟩ := Cond.code_spec hn h2
      exact ⟨methY, cY, hmY, hcY, hlY⟩
    · obtain ⟨m9, methY, cY, hn9, hmY, hcY, -, hlY, -⟩ := Cond.codeWith_spec h2
      cases hn.symm.trans hn9
      exact ⟨methY, cY, hmY, hcY, hlY⟩
  obtain ⟨kY, hkY, -⟩ := className_of_methodNamed hn
  have hinitY : kY.init = .initialized := Cond.initialized_spec (findClass_of_methodNamed hn) hkY h3
  have h : At U g.method c below := by rw [hg]; exact X.here
  have happ : (headSpec [iCW j] (iRm j (sX σ' - sX σ) (sS σ' - sS σ))).appliesLoose (iY j) e.platform (U.calling g mk a) = true :=
    Spec.appliesLoose_calling (g := g) h hdg hn hkY hinitY
      (X.room_calling (g := g) (R' := iRm j (sX σ' - sX σ) (sS σ' - sS σ)) hsize hmY hcY hframes (by rw [hlY]; show _ + rL j ≤ _; omega) h4 h5) h1
  have hPc : iPc D base as σ a (U.calling g mk a) := ⟨hav, hKy.moved (State.WarmedH.refl U) (fun _ _ => rfl), hRel⟩
  obtain ⟨mid, hmid⟩ := h.above
  have hfr : (U.setTop g).frames = (.java g :: mid) ++ below := by rw [State.frames_setTop' g h.top, hmid]; rfl
  obtain ⟨oc, s₂, hsteps, -, hend, hq⟩ := Steps.callFree hM p X.admits X.cas X.clock (acts := []) hfr happ hPc trivial
  have hq' : iQc D base o σ σ' a (U.calling g mk a) oc s₂ := hq
  obtain ⟨ho, hth, hr2, hW₂, L, hsm, hL⟩ := hq'
  rw [State.frames_setTop' g h.top] at hend
  obtain ⟨g₀, hg0⟩ := Option.isSome_iff_exists.mp h.top
  obtain ⟨r, hr⟩ := State.topJava?_eq_some.mp hg0
  have hr' : (({ U with heap := s₂.heap, slotsUsed := s₂.slotsUsed } : State).setVm s₂.vm).frames = .java g₀ :: r := hr
  obtain ⟨e2, q2, q3, q4, q5, q6⟩ := id hsm
  have e3 : s₂ = ({ (U.calling g mk a).setFrames s₂.frames with heap := s₂.heap, slotsUsed := s₂.slotsUsed } : State).setVm s₂.vm := by
    have : s₂ = ({ s₂ with vm := (U.calling g mk a).vm } : State).setVm s₂.vm := rfl
    rw [e2] at this
    exact this
  have hW' : U.WarmedH s₂.vm := hW₂
  have hsame : U.sameButNew ({ U with heap := s₂.heap, slotsUsed := s₂.slotsUsed } : State) L (sX σ' - sX σ) (sS σ' - sS σ) := by
    refine ⟨?_, q2, q3, q4, q5, q6⟩
    obtain ⟨t, ht, -⟩ := State.frames_cons hr
    show ({ U with heap := s₂.heap, slotsUsed := s₂.slotsUsed } : State) = { U.setFrames U.frames with heap := s₂.heap, slotsUsed := s₂.slotsUsed }
    rw [State.setFrames_self ht]
  have hold : ∀ q : Nat, q < base → s₂.heap[q]? = U.heap[q]? := fun q hq => (vx_frame hsm).2 q (by show q < U.heap.size; have := hRel.1; have := hRel.2.2.1; omega) (fun z hz hzq => by have h5 := hL z hz; rw [show z.base = q from hzq] at h5; omega)
  have hX2 : Stand p l e R s m sargs below meth c (({ U with heap := s₂.heap, slotsUsed := s₂.slotsUsed } : State).setVm s₂.vm) (Ls ++ L) (c0 + (sX σ' - sX σ)) (s0 + (sS σ' - sS σ)) :=
    ⟨X.admits, X.cas, X.clock, X.frames, X.room, X.hears, X.method, X.code, (X.here.setHeapUsed s₂.heap s₂.slotsUsed).setVm hW'.alike, X.tail, State.WarmedH.trans X.warmed hW', X.limits, X.bytes, X.same.trans (hsame.setVm s.vm)⟩
  have hbeh : iBeh D base σ σ' ⟨U, Ls, c0, s0⟩ ⟨(({ U with heap := s₂.heap, slotsUsed := s₂.slotsUsed } : State).setVm s₂.vm), Ls ++ L, c0 + (sX σ' - sX σ), s0 + (sS σ' - sS σ)⟩ := ⟨hr2, hold, ⟨L, rfl, hL⟩, rfl, rfl⟩
  cases oc with
  | returned v =>
    obtain ⟨c₂, i₂, len₂, hc₂, hd₂, hf₂⟩ := hend
    have hcc : c₂ = c := by
      have h1 : s₂.code? g.method = U.code? g.method := by
        rw [State.code?_eq, State.code?_eq, hW'.alike.method?]
      exact Option.some.inj (hc₂.symm.trans (h1.trans h.code))
    subst hcc
    have hlen : len₂ = 3 := by rw [hdg] at hd₂; cases hd₂; rfl
    subst hlen
    have hs₂ : s₂ = (({ U with heap := s₂.heap, slotsUsed := s₂.slotsUsed } : State).setVm s₂.vm).setTop { g with pc := g.pc + 3, stack := v.toList ++ g.stack } := by
      refine e3.trans ?_
      rw [hf₂, State.calling_eq h.top, State.setFrames_setFrames, State.setTop_of_frames _ hr', hr]
      rfl
    refine Or.inl ⟨v, _, hX2, ⟨ho, hbeh⟩, ?_⟩
    show Steps p.tables e below _ ((({ U with heap := s₂.heap, slotsUsed := s₂.slotsUsed } : State).setVm s₂.vm).setTop { g with pc := g.pc + 3, stack := v.toList ++ g.stack })
    rw [← hs₂]
    exact hsteps
  | threw q =>
    have hf₂ : s₂.frames = .throwing q :: .java g :: U.frames.tail := hend
    have hs₂ : s₂ = ((({ U with heap := s₂.heap, slotsUsed := s₂.slotsUsed } : State).setVm s₂.vm).setTop g).pushFrame (.throwing q) := by
      refine e3.trans ?_
      rw [hf₂, State.calling_eq h.top, State.setFrames_setFrames, State.pushFrame, State.frames_setTop _ hr', State.setTop_of_frames _ hr', State.setFrames_setFrames, hr]
      rfl
    refine Or.inr ⟨q, _, hX2, ⟨ho, ⟨s₂, ?_, rfl⟩, hbeh⟩, ?_⟩
    · revert hth
      rcases o with v | ⟨x, a9⟩
      · exact fun _ => trivial
      · exact fun h => h
    · show Steps p.tables e below _ (((({ U with heap := s₂.heap, slotsUsed := s₂.slotsUsed } : State).setVm s₂.vm).setTop g).pushFrame (.throwing q))
      rw [← hs₂]
      exact hsteps
end CL
