/-! WHAT THE IDEAL MACHINE ANSWERS, THE REAL ONE ANSWERS: by induction on the fuel; the start. -/
theorem cv_cat {v : iV} (h : ∀ w, v ≠ vl w) : (cv v).category = 1 := by
  match v, h with
  | .inl x, _ => rfl
  | .inr (.inl a), _ => exact cv_cat1 a
  | .inr (.inr y), h => exact absurd rfl (h y)
theorem iSl : ∀ (as : List iV), (∀ v ∈ as, ∀ w, v ≠ vl w) → lg_sl (as.map cv) = as.map (fun v => Slot.val (cv v))
  | [], _ => rfl
  | v :: r, h => by
    have h1 := cv_cat (h v List.mem_cons_self)
    have h2 := iSl r (fun u hu => h u (List.mem_cons_of_mem _ hu))
    unfold lg_sl at h2 ⊢
    rw [List.map_cons, List.flatMap_cons, h2, if_neg (by rw [h1]; decide)]
    rfl
theorem iLoc0 {j : Nat} {as : List iV} (hl : as.length ≤ mL j) (hn : ∀ v ∈ as, ∀ w, v ≠ vl w) : iLoc ((lg_sl (as.map cv) ++ List.replicate (mL j - (lg_sl (as.map cv)).length) Slot.unset).toArray) (mL j) (ipad j as) := by
  have e := iSl as hn
  have hlen : (lg_sl (as.map cv)).length = as.length := by rw [e, List.length_map]
  obtain ⟨h1, h2, -⟩ := lv_entry (as.map cv) (n := mL j) (by rw [hlen]; exact hl)
  refine ⟨h1, ?_, h2, fun k v hk hv => ?_⟩
  · unfold ipad
    rw [List.length_append, List.length_replicate]
    omega
  · unfold ipad at hk
    by_cases hka : k < as.length
    · rw [List.getElem?_append_left hka] at hk
      rw [List.getElem?_toArray, List.getElem?_append_left (by rw [hlen]; exact hka), e, List.getElem?_map, hk]
      rfl
    · rw [List.getElem?_append_right (by omega), List.getElem?_replicate] at hk
      split at hk
      · cases hk; exact absurd rfl (hv 0)
      · cases hk
section MN
variable {D : iD} {base : Nat} {l : Launch}
theorem iMt_of {j : Nat} {as : List iV} {o : iO} {σ σ' : iS} (hj : j < 140) (hl : as.length ≤ mL j) (hno : ∀ v ∈ as, ∀ w, v ≠ vl w) (hG : iG2 D base l o σ' j 0 (ipad j as) [] σ) : iMt D base l j as σ o σ' := by
  refine MetFree.of_bodySF (code := iBy j) (maxLocals := mL j) (ret := iRt j) (iOwY j hj).2 ?_ ?_
  · intro args s m h hn
    have hw := atoms_spec (ws := [iCW j]) h _ List.mem_cons_self
    unfold iCW at hw
    split at hw
    · obtain ⟨meth, c, h1, h2, h3, h4, h5, h6, -, -⟩ := Cond.code_spec hn hw
      exact ⟨meth, c, h1, h2, h3, h4, h5, h6⟩
    · obtain ⟨m9, meth, c, hn9, h1, h2, h3, h4, -, h5, h6, -⟩ := Cond.codeWith_spec hw
      cases hn.symm.trans hn9
      exact ⟨meth, c, h1, h2, h3, h4, h5, h6⟩
  · intro p e s m args below meth c s₁ B hml hP _
    obtain ⟨rfl, hKy, hR⟩ := hP
    have hh0 : s₁.heap = s.heap := by rw [B.state]; rfl
    have ht : c.exceptionTable.toList = tableOf (iHh j) := by
      have hw := atoms_spec (ws := [iCW j]) B.pre _ List.mem_cons_self
      unfold iCW at hw
      split at hw
      · next hem =>
        obtain ⟨meth9, c9, h1, h2, -, -, -, -, h7, -⟩ := Cond.code_spec B.named hw
        cases Option.some.inj (h1.symm.trans B.method)
        cases Option.some.inj (h2.symm.trans (Stand.of_body B).code)
        rw [List.isEmpty_iff.mp hem, Array.isEmpty_iff.mp h7]
        rfl
      · exact vx_table (x := iY j) B hw
    have hown : s.vm.findClass (iOw j) = some m.cls := by rw [(iOwY j hj).1]; exact findClass_of_methodNamed B.named
    have C : iCtx D p s m meth c j := ⟨B.exec, B.bytes, B.returns, B.notSynchronized, hown, hml, (name_of_methodNamed B.named B.method).1, hKy.1, hKy.2.1, ht, hKy.2.2.2⟩
    have K := hG.2 p e (iRm j (sX σ' - sX σ) (sS σ' - sS σ)) s m (as.map cv).toArray below meth c (sX σ) (sS σ) C hKy hR.1 (Nat.le_refl _) (Nat.le_refl _) (Nat.le_refl _) (Nat.le_refl _) (Nat.le_refl _) (Nat.le_refl _) hj s.heap [] _ hR (fun _ _ => rfl) (fun z hz => by cases hz) (iLoc0 hl hno)
    rw [Nat.sub_self, Nat.sub_self] at K
    obtain ⟨t, a1, oc, b1, b2, b3, b4, b5, b6, b7⟩ := K s₁ hh0 (Stand.of_body B)
    refine ⟨t, oc, ?_, b1, b2, b3, b4, b5, b6, b7⟩
    rw [lg_entry_eq]
    exact a1
theorem iSound (hl : l.stackTraces = false) (n : Nat) : ∀ (j pc : Nat) (ls st : List iV) (σ : iS) (o : iO) (σe : iS), irun n j pc ls st σ = some (o, σe) → iG2 D base l o σe j pc ls st σ := by
  induction n with
  | zero => intro j pc ls st σ o σe h; simp [irun] at h
  | succ n ih =>
    intro j pc ls st σ o σe h
    rw [irun] at h
    cases hc : iC j pc with
    | none => rw [hc] at h; cases h
    | some q =>
      obtain ⟨i, len⟩ := q
      rw [hc] at h
      (try dsimp only at h)
      cases hs : ist j pc i len ls st σ with
      | none => rw [hs] at h; cases h
      | some y =>
        rw [hs] at h
        (try dsimp only at h)
        refine iStep hc hs ?_ ?_ ?_ hl
        · intro pc' ls' st' σ1 hy
          subst hy
          exact ih _ _ _ _ _ _ _ h
        · intro o2 σ2 hy
          subst hy
          have h : (some (o2, σ2) : Option (iO × iS)) = some (o, σe) := h
          cases h
          exact ⟨rfl, rfl⟩
        · intro j' as rest hy
          subst hy
          (try dsimp only at h)
          cases hr : irun n j' 0 (ipad j' as) [] σ with
          | none => rw [hr] at h; cases h
          | some z =>
            rw [hr] at h
            obtain ⟨o1, σ1⟩ := z
            have g := ih _ _ _ _ _ _ _ hr
            refine ⟨o1, σ1, fun h1 _ h3 h4 => iMt_of h1 h3 h4 g, g.1, ?_⟩
            rcases o1 with v | ⟨e, a⟩
            · have g2 := ih _ _ _ _ _ _ _ h
              exact ⟨g2.1, fun w hw => (by cases hw; exact g2), fun x a h hx => (by cases hx), fun x a hx => (by cases hx)⟩
            · (try dsimp only at h)
              cases hh : mH j pc e with
              | none =>
                rw [hh] at h
                (try dsimp only at h)
                split at h
                · next hz =>
                  cases h
                  exact ⟨⟨Nat.le_refl _, Nat.le_refl _⟩, fun w hw => (by cases hw), fun x a' h' hx hx2 => (by cases hx; rw [hh] at hx2; cases hx2), fun x a' hx _ => (by cases hx; exact ⟨hz, rfl, rfl⟩)⟩
                · cases h
              | some hp =>
                rw [hh] at h
                have g2 := ih _ _ _ _ _ _ _ h
                exact ⟨g2.1, fun w hw => (by cases hw), fun x a' h' hx hx2 => (by cases hx; rw [hh] at hx2; cases hx2; exact g2), fun x a' hx hx2 => (by cases hx; rw [hh] at hx2; cases hx2)⟩
end MN
/-! the law's start -/
set_option maxRecDepth 20000 in
theorem km_ins : ∀ c, c < 10 → Cond.instantiable (kR (c + 1)) (kN (c + 1)) ∈ lw_tbl := by decide +kernel
set_option maxRecDepth 20000 in
theorem km_ao : ∀ c ∈ [2, 4, 6, 9], Cond.arrayOver (.object (kR c)) ∈ lw_tbl := by decide +kernel
set_option maxRecDepth 20000 in
theorem km_str : ∀ q ∈ iStrs, Cond.stringRef "TextVerbs" q.1 q.2 ∈ lw_tbl := by decide +kernel
set_option maxRecDepth 20000 in
theorem km_exa : ∀ q ∈ iStrs, Cond.exactly (.string "TextVerbs" q.1) "java/lang/String" ∈ flatC (Jvm.Cond.and given_1 narrow_1) := by decide +kernel
set_option maxRecDepth 20000 in
theorem km_z1 : Cond.laysStatic Bundle.tN "UNASSIGNED_STACK" Bundle.steD ∈ lw_tbl := by decide +kernel
set_option maxRecDepth 20000 in
theorem km_z2 : Cond.laysStatic Bundle.tN "SUPPRESSED_SENTINEL" Bundle.listD ∈ lw_tbl := by decide +kernel
set_option maxRecDepth 20000 in
theorem km_zi : Cond.initialized Bundle.tN ∈ lw_tbl := by decide +kernel
set_option maxRecDepth 20000 in
theorem km_r1 : Cond.isRef (.static Bundle.tN "UNASSIGNED_STACK" Bundle.steD) ∈ flatC (Jvm.Cond.and given_1 narrow_1) := by decide +kernel
set_option maxRecDepth 20000 in
theorem km_r2 : Cond.isRef (.static Bundle.tN "SUPPRESSED_SENTINEL" Bundle.listD) ∈ flatC (Jvm.Cond.and given_1 narrow_1) := by decide +kernel
set_option maxRecDepth 20000 in
theorem km_n12 : Cond.not (.castable (iEx 1) (iEx 2)) ∈ flatC (Jvm.Cond.and given_1 narrow_1) := by decide +kernel
set_option maxRecDepth 20000 in
theorem km_n21 : Cond.not (.castable (iEx 2) (iEx 1)) ∈ flatC (Jvm.Cond.and given_1 narrow_1) := by decide +kernel
theorem iTw0 {s : State} {args : Array Value} (h : ∀ w ∈ lw_tbl, w.before args s = true) : iTw s := by
  intro w hw hg
  have hb := h w hw
  rcases iGW_c hg with hg | ⟨ty, rfl⟩ | ⟨C, rfl⟩ | ⟨_, _, _, _, _, _, rfl⟩ | ⟨_, _, _, _, rfl⟩ | ⟨_, _, rfl⟩ | ⟨_, rfl⟩
  · exact word_at (State.WarmedH.refl s) (Or.inl hg) hb
  · exact word_at (State.WarmedH.refl s) (Or.inr ⟨_, rfl⟩) hb
  · exact va_AO.of hb
  · exact va_Nw.of rfl hb
  · exact va_Nw.of rfl hb
  · exact va_Nw.of rfl hb
  · exact va_Nw.of rfl hb
theorem iDex {s : State} {args : Array Value} {scr : Cell} (hts : ∀ w ∈ lw_tbl, w.before args s = true) (hof : s.isArrayOf scr .int) : ∃ D : iD, va_K D.1 vwC (iTys D) s ∧ ArrOfT s (D.2.2.2.2 0) .int ∧ D.2.2.2.2 0 = scr.cls := by
  have hk : ∀ c : Nat, ∃ cC : ClassId, ∃ iS : Nat → Nat, c < 10 → u_Kn s (kR (c + 1)) (kT (c + 1)) (kN (c + 1)) cC iS := by
    intro c
    by_cases h : c < 10
    · obtain ⟨cC, iS, hK⟩ := u_known (C := kR (c + 1)) (T := kT (c + 1)) (N := kN (c + 1)) (n := kN (c + 1)) hts (kw_in (c + 1) (by omega)) (hts _ (km_ins c h))
      exact ⟨cC, iS, fun _ => hK⟩
    · exact ⟨0, fun _ => 0, fun q => absurd q h⟩
  have hao : ∀ c : Nat, ∃ cA : ClassId, c ∈ [2, 4, 6, 9] → ArrOfT s cA (.object (kR c)) ∧ va_RA s cA (.object (kR c)) := by
    intro c
    by_cases h : c ∈ [2, 4, 6, 9]
    · obtain ⟨comp, cA, k, f1, -, f2, f3, f4⟩ := Cond.arrayOver_spec (hts _ (km_ao c h))
      exact ⟨cA, fun _ => ⟨fun N z => ⟨(fun k h => by cases h), k, f2, comp, f3⟩, k, comp, f2, f3, f1, f4⟩⟩
    · exact ⟨0, fun q => absurd q h⟩
  have hac : ∀ ty, Cond.arrayClass ty ∈ lw_tbl → ∃ cA, ArrOfT s cA ty ∧ s.vm.findClass ("[" ++ ty.toString) = some cA := by
    intro ty hty
    obtain ⟨cA, k, comp, f1, f2, f3⟩ := Cond.arrayClass_spec (hts _ hty)
    exact ⟨cA, fun N z => ⟨(fun k h => by cases h), k, f2, comp, f3⟩, f1⟩
  obtain ⟨fc, hfc⟩ := Classical.axiomOfChoice hk
  obtain ⟨fi, hfi⟩ := Classical.axiomOfChoice hfc
  obtain ⟨fa, hfa⟩ := Classical.axiomOfChoice hao
  obtain ⟨c1, a1, b1⟩ := hac .int kac_int
  obtain ⟨c2, a2, b2⟩ := hac .boolean kac_bool
  obtain ⟨c3, a3, b3⟩ := hac .long kac_long
  refine ⟨((fc, fi), c1, c2, c3, fun c => if c = 0 then scr.cls else fa c), ⟨fun c q hq => ?_, fun k q hq => ?_⟩, ?_, rfl⟩
  · have hc10 : c < 10 := (List.getElem?_eq_some_iff.mp hq).1
    have e := kw_vw (c := c + 1) (by omega) (by omega)
    rw [Nat.add_sub_cancel] at e
    have e2 := Option.some.inj (e.symm.trans hq)
    subst e2
    exact hfi c hc10
  · have hk7 : k < 7 := (List.getElem?_eq_some_iff.mp hq).1
    match k, hk7, hq with
    | 0, _, hq =>
      have e := Option.some.inj (show some (c1, FieldType.int) = some q from hq)
      subst e
      exact ⟨a1, b1⟩
    | 1, _, hq =>
      have e := Option.some.inj (show some (c2, FieldType.boolean) = some q from hq)
      subst e
      exact ⟨a2, b2⟩
    | 2, _, hq =>
      have e := Option.some.inj (show some (c3, FieldType.long) = some q from hq)
      subst e
      exact ⟨a3, b3⟩
    | 3, _, hq =>
      have e := Option.some.inj (show some (fa 2, FieldType.object (kR 2)) = some q from hq)
      subst e
      exact hfa 2 (by decide)
    | 4, _, hq =>
      have e := Option.some.inj (show some (fa 4, FieldType.object (kR 4)) = some q from hq)
      subst e
      exact hfa 4 (by decide)
    | 5, _, hq =>
      have e := Option.some.inj (show some (fa 6, FieldType.object (kR 6)) = some q from hq)
      subst e
      exact hfa 6 (by decide)
    | 6, _, hq =>
      have e := Option.some.inj (show some (fa 9, FieldType.object (kR 9)) = some q from hq)
      subst e
      exact hfa 9 (by decide)
    | k + 7, h, _ => omega
  · exact fun N z => ⟨(fun k h => by cases h), hof.2⟩
theorem iKy0 {s : State} {b : Addr} {D : iD} (hts : ∀ w ∈ lw_tbl, w.before #[Value.ref b] s = true) (hgv : (Jvm.Cond.and given_1 narrow_1).before #[Value.ref b] s = true) (hK : va_K D.1 vwC (iTys D) s) (hA : ArrOfT s (D.2.2.2.2 0) .int) : iKy D s.heap.size s := by
  have hf := flat_of_before _ hgv
  refine ⟨iTw0 hts, hK, ⟨vx_Zqof (hts _ km_z1) (hts _ km_zi) (hf _ km_r1) (fun a ha => Nat.not_le.mpr ha), vx_Zqof (hts _ km_z2) (hts _ km_zi) (hf _ km_r2) (fun a ha => Nat.not_le.mpr ha), fun q hq => ?_, va_Nc.of (hf _ km_n12), va_Nc.of (hf _ km_n21)⟩, hA⟩
  obtain ⟨a, c, cell, k, h1, -⟩ := Cond.exactly_spec (hf _ (km_exa q hq))
  exact ⟨a, vk_R.of (hts _ (km_str q hq)) h1⟩
def lw_Q (_ : Array Value) (s : State) (o : Outcome) (t : State) : Prop := o = .returned (some (.int 1)) ∧ Framed s o t [] 601024 7293034
def lw_Z (below : List Frame) (a : Array Value) (s : State) : State → Prop := fun t => ∃ o, t.status = .running ∧ Ended t below o ∧ lw_Q a s o t
/-- the heap as the law finds it: the script at b, nothing else -/
def i0 (b L : Nat) (xs : Nat → Int32) (X : Nat) : iS := (fun _ _ => 0, fun _ _ => 0, fun _ k => xs k, fun _ _ => 0, fun _ _ => 0, fun a => if a = b then 100 else 0, fun _ => L, X, 0)
/-- what must be shown of the ideal machine -/
def iLaw : Prop := ∀ (b L X : Nat) (xs : Nat → Int32), b ≠ 0 → b < X → L ≤ 2048 → ca J_L_law [vr b] (i0 b L xs X) (fun o σ' => o = .inl (some (vi 1)) ∧ sX σ' ≤ X + 601024 ∧ sS σ' ≤ 7293034)
theorem whole_start {p : Program} {e : Env} {s : State} {m : MethodId} {below : List Frame} {meth : Method} {c : Code} (l : Launch) (hl : l.stackTraces = false) (hLaw : iLaw) {b L : Nat} {xs : Nat → Int32} (hL : L ≤ 2048) (hx : p.tables.exec = Jvm.exec) (hb : c.code = code) (hr : meth.sig.returnType = ret) (hml : c.maxLocals = 7) (hown : s.vm.findClass "TextVerbsLaw" = some m.cls) (hts : ∀ w ∈ lw_tbl, w.before #[Value.ref b] s = true) (hX : va_X b L xs s s.heap) (hbl : b < s.heap.size) (hlocks : meth.locks = false) (hgv : (Jvm.Cond.and given_1 narrow_1).before #[Value.ref b] s = true) (hnm : meth.name = "law") (hex : c.exceptionTable.toList = []) :
    W p l e room_1 s m #[Value.ref b] below meth c s.heap [] 0 0 (lw_Z below #[Value.ref b] s) (entryFrame m ([Value.ref b] : List Value).toArray 7) := by
  obtain ⟨scr, hcb, hof, hkn, hsz, hval⟩ := hX
  obtain ⟨D, hK, hA, hD0⟩ := iDex hts hof
  have hKy : iKy D s.heap.size s := iKy0 hts hgv hK hA
  obtain ⟨n, o, σ', hrun, rfl, hx1, hs1⟩ := hLaw (b + 1) L (s.heap.size + 1) xs (by omega) (by omega) hL
  have hG := iSound (D := D) (base := s.heap.size) hl n _ _ _ _ _ _ _ hrun
  have hk1 : ∀ a, sK (i0 (b + 1) L xs (s.heap.size + 1)) a ≠ 0 → a = b + 1 := fun a ha => by
    by_cases h : a = b + 1
    · exact h
    · exact absurd (if_neg h) ha
  have hk2 : sK (i0 (b + 1) L xs (s.heap.size + 1)) (b + 1) = 100 := if_pos rfl
  have hR : iRel D s.heap.size (i0 (b + 1) L xs (s.heap.size + 1)) s.heap := by
    refine ⟨rfl, by omega, Nat.lt_succ_self _, fun a ha => ?_, fun a ha h100 => ?_, fun a => ?_⟩
    · have := hk1 a ha
      subst this
      exact ⟨Nat.succ_lt_succ hbl, by omega⟩
    · have := hk1 a ha
      subst this
      exact absurd hk2 h100
    · by_cases h : a = b + 1
      · subst h
        unfold iAt
        rw [hk2]
        exact ⟨fun _ h => by omega, fun _ => ⟨scr, hcb, hD0.symm, hof.1, hkn, hsz, Nat.lt_of_le_of_lt hL (by decide), hval⟩, fun h => by omega, fun h => by omega, fun h => by omega, fun c hc h => by omega, by omega⟩
      · exact iAt_0 (if_neg h)
  have C : iCtx D p s m meth c 137 := ⟨hx, hb, hr, hlocks, hown, hml, hnm, hKy.1, hKy.2.1, hex, hA⟩
  have hcv : ([vr (b + 1)] : List iV).map cv = [Value.ref b] := by
    rw [List.map_cons, List.map_nil, cv_r (by omega)]
    rfl
  have K := hG.2 p e room_1 s m #[Value.ref b] below meth c (s.heap.size + 1) 0 C hKy rfl (Nat.le_refl _) (Nat.le_refl _) (Nat.le_of_ble_eq_true rfl) (Nat.le_of_ble_eq_true rfl) (by show sX σ' - (s.heap.size + 1) ≤ 601024; omega) (by show sS σ' - 0 ≤ 7293034; omega) (by decide) s.heap [] _ hR (fun _ _ => rfl) (fun z hz => by cases hz) (iLoc0 (j := 137) (as := [vr (b + 1)]) (Nat.le_of_ble_eq_true rfl) (fun v hv w hw => by rw [List.mem_singleton.mp hv] at hw; cases hw))
  rw [show sX (i0 (b + 1) L xs (s.heap.size + 1)) - (s.heap.size + 1) = 0 from Nat.sub_self _, show sS (i0 (b + 1) L xs (s.heap.size + 1)) - 0 = 0 from rfl, hcv] at K
  intro T hT X
  obtain ⟨t, a1, oc, b1, b2, b3, -, -, b4, Ls, b5, b6⟩ := K T hT X
  have hoc : oc = .returned (some (.int 1)) := b3
  refine ⟨t, ?_, oc, b1, b2, hoc, ⟨_, hoc⟩, b4, ?_⟩
  · rw [lg_entry_eq]
    exact a1
  · exact (State.sameButNew.drop_fresh (L := []) (J := Ls) b5 b6).mono (by omega) (by omega)
