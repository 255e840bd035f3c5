/-! STORES, NEW CELLS, ANSWERS. -/
theorem kac_int : Cond.arrayClass .int ∈ lw_tbl := List.mem_of_getElem? (i := 87) (by decide +kernel)
theorem kac_bool : Cond.arrayClass .boolean ∈ lw_tbl := List.mem_of_getElem? (i := 155) (by decide +kernel)
theorem kac_long : Cond.arrayClass .long ∈ lw_tbl := List.mem_of_getElem? (i := 993) (by decide +kernel)
theorem kw_any : ∀ c, c < 11 → ∀ f, f < kN c → (iTyOk 0 (kY c f) || iTyOk 1 (kY c f) || iTyOk 2 (kY c f)) = true := by decide +kernel
theorem iFv_0 {ty : FieldType} (h : (iTyOk 0 ty || iTyOk 1 ty || iTyOk 2 ty) = true) : iFv ty 0 0 = defaultValue ty := by
  cases ty <;> first | rfl | (exact (nomatch (h : false = true)))
theorem isum_cat : ∀ st : List iV, ((st.map cv).map fun v => v.category).sum = isum st
  | [] => rfl
  | .inl x :: r => by
    have := isum_cat r
    simp only [List.map_cons, List.sum_cons, this, isum]
    show 1 + _ = _
    omega
  | .inr (.inl a) :: r => by
    have := isum_cat r
    simp only [List.map_cons, List.sum_cons, this, isum]
    rw [cv_cat1]
    omega
  | .inr (.inr y) :: r => by
    have := isum_cat r
    simp only [List.map_cons, List.sum_cons, this, isum]
    show 2 + _ = _
    omega
theorem iLocs {base a k : Nat} {locs : List Loc} (hL : ∀ z ∈ locs, base ≤ z.base) (h : base ≤ a) : ∀ z ∈ locs ++ [(⟨a, k⟩ : Loc)], base ≤ z.base := by
  intro z hz
  rcases List.mem_append.mp hz with hz | hz
  · exact hL z hz
  · rw [List.mem_singleton.mp hz]; exact h
section ST
variable {D : iD} {base : Nat} {l : Launch} {p : Program} {e : Env} {R : Room} {s : State} {m : MethodId} {args : Array Value} {below : List Frame} {meth : Method} {c : Code} {x0 s0 : Nat} {o : iO} {σe : iS} {j pc len : Nat} {ls st : List iV} {σ : iS}
theorem iAt_101 {a : Nat} {oc : Option Cell} (hk : sK σ a = 101) (h : oc = some (arrV D.2.1 (sN σ a) (fun q => .int (sA σ a q)))) : iAt D σ a oc := by
  unfold iAt
  rw [hk]
  exact ⟨fun _ h => by omega, fun h => by omega, fun _ => h, fun h => by omega, fun h => by omega, fun c hc h => by omega, by omega⟩
theorem iAt_102 {a : Nat} {oc : Option Cell} (hk : sK σ a = 102) (h : oc = some (arrV D.2.2.1 (sN σ a) (fun q => .int (sA σ a q)))) : iAt D σ a oc := by
  unfold iAt
  rw [hk]
  exact ⟨fun _ h => by omega, fun h => by omega, fun h => by omega, fun _ => h, fun h => by omega, fun c hc h => by omega, by omega⟩
theorem iAt_103 {a : Nat} {oc : Option Cell} (hk : sK σ a = 103) (h : oc = some (arrV D.2.2.2.1 (sN σ a) (fun q => .long (sL σ a q)))) : iAt D σ a oc := by
  unfold iAt
  rw [hk]
  exact ⟨fun _ h => by omega, fun h => by omega, fun h => by omega, fun h => by omega, fun _ => h, fun c hc h => by omega, by omega⟩
theorem iAt_11 {a q : Nat} {oc : Option Cell} (hq : q = 2 ∨ q = 4 ∨ q = 6 ∨ q = 9) (hk : sK σ a = 110 + q) (h : oc = some (arrV (D.2.2.2.2 q) (sN σ a) (fun z => cv (vr (sB σ a z))))) : iAt D σ a oc := by
  unfold iAt
  rw [hk]
  refine ⟨fun _ h => by omega, fun h => by omega, fun h => by omega, fun h => by omega, fun h => by omega, fun c hc h2 => ?_, by omega⟩
  have : c = q := by omega
  subst this
  exact h
theorem iAt_200 {a q : Nat} {oc : Option Cell} (hk : sK σ a = 200 + q) : iAt D σ a oc := by
  unfold iAt
  rw [hk]
  exact ⟨fun _ h => by omega, fun h => by omega, fun h => by omega, fun h => by omega, fun h => by omega, fun c hc h => by omega, by omega⟩
theorem sd_iast {a : Nat} {x y : Int32} (C : iCtx D p s m meth c j) (h : iC j pc = some (.iastore, len)) (hk : sK σ a = 101) (hi : iIn x (sN σ a)) (kk : iWG D base l p e R s m args below meth c x0 s0 o σe j (pc + len) ls st (wA σ a x.toNatClampNeg y)) : iWG D base l p e R s m args below meth c x0 s0 o σe j pc ls (vi y :: vi x :: vr a :: st) σ := by
  obtain ⟨hd, hn⟩ := iDec h
  cases iLen1 hn
  intro H locs arr hR hO hL hA
  obtain ⟨cx, cb, -, -, co, -, -, ct, cK, -⟩ := C
  have hk0 : sK σ a ≠ 0 := by omega
  have hba : base ≤ a - 1 := by have := hR.2.2.2.2.1 a hk0 (by omega); omega
  rw [List.map_cons, List.map_cons, List.map_cons, cv_r (hR.lt hk0).1]
  refine W.iast cx cb ((hR.2.2.2.2.2 a).2.2.1 hk) ((iT0 cK).1 _ _) (fun q => by cases q) (by rw [arrV_size]; exact hi) rfl rfl hd (fun H' g1 g2 g3 => ?_)
  refine kk H' _ arr (hR.put (hR.lt hk0).1 (fun _ => rfl) rfl (fun b hb => iSame_wA hb) g2 g3 ?_) (fun q hq => (g3 q (Nat.ne_of_lt (Nat.lt_of_lt_of_le hq hba))).trans (hO q hq)) (iLocs hL hba) hA
  rw [g1, arrV_store]
  refine iAt_101 hk ?_
  show some (arrV D.2.1 (sN σ a) _) = some (arrV D.2.1 (sN σ a) _)
  congr 2
  funext q
  by_cases hq : q = x.toNatClampNeg
  · simp [updV, sA, wA, u2, hq]
  · simp [updV, sA, wA, u2, hq]
theorem sd_bast {a : Nat} {x y : Int32} (C : iCtx D p s m meth c j) (h : iC j pc = some (.bastore, len)) (hk : sK σ a = 102) (hy : iBool y) (hi : iIn x (sN σ a)) (kk : iWG D base l p e R s m args below meth c x0 s0 o σe j (pc + len) ls st (wA σ a x.toNatClampNeg y)) : iWG D base l p e R s m args below meth c x0 s0 o σe j pc ls (vi y :: vi x :: vr a :: st) σ := by
  obtain ⟨hd, hn⟩ := iDec h
  cases iLen1 hn
  intro H locs arr hR hO hL hA
  obtain ⟨cx, cb, -, -, co, -, -, ct, cK, -⟩ := C
  have hk0 : sK σ a ≠ 0 := by omega
  have hba : base ≤ a - 1 := by have := hR.2.2.2.2.1 a hk0 (by omega); omega
  have hny : narrow .boolean (.int y) = .int y := by rcases hy with rfl | rfl <;> rfl
  rw [List.map_cons, List.map_cons, List.map_cons, cv_r (hR.lt hk0).1]
  refine W.zast cx cb ((hR.2.2.2.2.2 a).2.2.2.1 hk) ((iT1 cK).1 _ _) (fun q => by cases q) (by rw [arrV_size]; exact hi) rfl rfl hd (fun H' g1 g2 g3 => ?_)
  refine kk H' _ arr (hR.put (hR.lt hk0).1 (fun _ => rfl) rfl (fun b hb => iSame_wA hb) g2 g3 ?_) (fun q hq => (g3 q (Nat.ne_of_lt (Nat.lt_of_lt_of_le hq hba))).trans (hO q hq)) (iLocs hL hba) hA
  rw [g1, hny, arrV_store]
  refine iAt_102 hk ?_
  show some (arrV D.2.2.1 (sN σ a) _) = some (arrV D.2.2.1 (sN σ a) _)
  congr 2
  funext q
  by_cases hq : q = x.toNatClampNeg
  · simp [updV, sA, wA, u2, hq]
  · simp [updV, sA, wA, u2, hq]
theorem sd_last {a : Nat} {x : Int32} {y : Int64} (C : iCtx D p s m meth c j) (h : iC j pc = some (.lastore, len)) (hk : sK σ a = 103) (hi : iIn x (sN σ a)) (kk : iWG D base l p e R s m args below meth c x0 s0 o σe j (pc + len) ls st (wL σ a x.toNatClampNeg y)) : iWG D base l p e R s m args below meth c x0 s0 o σe j pc ls (vl y :: vi x :: vr a :: st) σ := by
  obtain ⟨hd, hn⟩ := iDec h
  cases iLen1 hn
  intro H locs arr hR hO hL hA
  obtain ⟨cx, cb, -, -, co, -, -, ct, cK, -⟩ := C
  have hk0 : sK σ a ≠ 0 := by omega
  have hba : base ≤ a - 1 := by have := hR.2.2.2.2.1 a hk0 (by omega); omega
  rw [List.map_cons, List.map_cons, List.map_cons, cv_r (hR.lt hk0).1]
  refine W.last cx cb ((hR.2.2.2.2.2 a).2.2.2.2.1 hk) ((iT2 cK).1 _ _) (fun q => by cases q) (by rw [arrV_size]; exact hi) rfl rfl hd (fun H' g1 g2 g3 => ?_)
  refine kk H' _ arr (hR.put (hR.lt hk0).1 (fun _ => rfl) rfl (fun b hb => iSame_wL hb) g2 g3 ?_) (fun q hq => (g3 q (Nat.ne_of_lt (Nat.lt_of_lt_of_le hq hba))).trans (hO q hq)) (iLocs hL hba) hA
  rw [g1, arrV_store]
  refine iAt_103 hk ?_
  show some (arrV D.2.2.2.1 (sN σ a) _) = some (arrV D.2.2.2.1 (sN σ a) _)
  congr 2
  funext q
  by_cases hq : q = x.toNatClampNeg
  · simp [updV, sL, wL, u2, hq]
  · simp [updV, sL, wL, u2, hq]
theorem sd_aast {a b : Nat} {x : Int32} (C : iCtx D p s m meth c j) (h : iC j pc = some (.aastore, len)) (hk : 110 ≤ sK σ a ∧ sK σ a < 200) (hb : b = 0 ∨ sK σ b + 110 = sK σ a) (hi : iIn x (sN σ a)) (kk : iWG D base l p e R s m args below meth c x0 s0 o σe j (pc + len) ls st (wB σ a x.toNatClampNeg b)) : iWG D base l p e R s m args below meth c x0 s0 o σe j pc ls (vr b :: vi x :: vr a :: st) σ := by
  obtain ⟨hd, hn⟩ := iDec h
  cases iLen1 hn
  intro H locs arr hR hO hL hA
  obtain ⟨cx, cb, -, -, co, -, -, ct, cK, -⟩ := C
  have hk0 : sK σ a ≠ 0 := by omega
  have hba : base ≤ a - 1 := by have := hR.2.2.2.2.1 a hk0 (by omega); omega
  obtain ⟨q, hq, hk2, e1⟩ := iRk hR hk
  have fin : ∀ H' : Heap, H'[a - 1]? = some ((arrV (D.2.2.2.2 q) (sN σ a) (fun z => cv (vr (sB σ a z)))).setSlot x.toNatClampNeg (cv (vr b))) → H'.size = H.size → (∀ q, q ≠ a - 1 → H'[q]? = H[q]?) → W p l e R s m args below meth c H' (locs ++ [⟨a - 1, x.toNatClampNeg⟩]) (sX σ - x0) (sS σ - s0) (iEnd D base below s o σe (sX σe - x0) (sS σe - s0)) (F0 m (pc + 1) arr (st.map cv)) := by
    intro H' g1 g2 g3
    refine kk H' _ arr (hR.put (hR.lt hk0).1 (fun _ => rfl) rfl (fun b hb => iSame_wB hb) g2 g3 ?_) (fun q hq => (g3 q (Nat.ne_of_lt (Nat.lt_of_lt_of_le hq hba))).trans (hO q hq)) (iLocs hL hba) hA
    rw [g1, arrV_store]
    refine iAt_11 hq hk2 ?_
    show some (arrV (D.2.2.2.2 q) (sN σ a) _) = some (arrV (D.2.2.2.2 q) (sN σ a) _)
    congr 2
    funext z
    by_cases hz : z = x.toNatClampNeg
    · simp [updV, sB, wB, u2, hz]
    · simp [updV, sB, wB, u2, hz]
  rw [List.map_cons, List.map_cons, List.map_cons, cv_r (hR.lt hk0).1]
  by_cases hb0 : b = 0
  · subst hb0
    exact va_WaastN (C := kR q) cx cb e1 ((iT3 cK hq).1 _ _) (fun z => by cases z) (by rw [arrV_size]; exact hi) rfl rfl hd fin
  · have hbk : sK σ b = q := by omega
    obtain ⟨cellV, g1, g2, g3, -⟩ := (hR.2.2.2.2.2 b).1 (by omega) (by omega)
    rw [hbk] at g2
    obtain ⟨hS, hcl⟩ := cK.1 (q - 1) _ (kw_vw (c := q) (by omega) (by omega))
    obtain ⟨kA, comp, k1, k2, k3, -⟩ := (iT3 cK hq).2
    have hcomp : comp = D.1.1 (q - 1) := Option.some.inj (k3.symm.trans hcl.1)
    subst hcomp
    obtain ⟨kC, hkC, -⟩ := id hcl.2
    rw [cv_r hb0] at fin ⊢
    exact W.aast cx cb e1 (fun z h => by cases h) (fun h => by cases h) k1 k2 rfl hkC ⟨fun z => hi (Or.inl z), by rw [arrV_size]; exact iCl hi⟩ g1 (fun z h => by rw [g3] at h; cases h) (by rw [g2]; exact hkC) (by rw [g2]; exact va_assign hcl) rfl rfl hd fin
theorem sd_new {k kc n : Nat} (C : iCtx D p s m meth c j) (h : iC j pc = some (.new k, len)) (hN : pN (mO j) k = some (kc, n)) (hx0 : x0 ≤ sX σ) (hs0 : s0 ≤ sS σ) (hc : sX σ - x0 + 1 ≤ R.cells) (hs : sS σ - s0 + n ≤ R.slots) (kk : iWG D base l p e R s m args below meth c x0 s0 o σe j (pc + len) ls (vr (sX σ) :: st) (nO σ kc n)) : iWG D base l p e R s m args below meth c x0 s0 o σe j pc ls st σ := by
  obtain ⟨hd, hn⟩ := iDec h
  cases iLen1 hn
  intro H locs arr hR hO hL hA
  obtain ⟨cx, cb, -, -, co, -, -, ct, cK, -⟩ := C
  obtain ⟨w1, w2, w3, ⟨h1, h2⟩, hnn⟩ := iNx hN
  have hvw := kw_vw h1 h2
  have hK0 := cK.1 (kc - 1) _ hvw
  have hb0 : sX σ ≠ 0 := by have := hR.2.1; have := hR.2.2.1; omega
  refine W.newcK cx cb co (ct.use w1 rfl args) (ct.use w2 rfl args) (ct.use w3 rfl args) rfl hd hc hs hK0.2.1 (show H.size = sX σ - 1 by have := hR.1; omega) (fun H' kC hkC g1 g2 g3 => ?_)
  have e1 : sX σ - x0 + 1 = sX (nO σ kc n) - x0 := by show _ = sX σ + 1 - x0; omega
  have e2 : sS σ - s0 + n = sS (nO σ kc n) - s0 := by show _ = sS σ + n - s0; omega
  rw [e1, e2]
  have kk2 := kk H' locs arr (hR.new (σ' := nO σ kc n) rfl (by simp [sK, nO, u1]; omega) (fun b hb => iSame_nO hb) (by have := hR.1; omega) (fun q hq => g3 q (by have := hR.1; omega)) ?_) (fun q hq => (g3 q (by have := hR.2.2.1; omega)).trans (hO q hq)) hL hA
  · rw [List.map_cons, cv_r hb0] at kk2
    exact kk2
  · rw [g1]
    obtain ⟨cell, q1, q2, q3, q4⟩ := u_born (kY kc) (ct.lay h2 args) (fun _ h => h) hK0 hkC g1 (kw_ty kc (by omega))
    cases Option.some.inj (g1.symm.trans q1)
    refine iAt_obj (fI := fun _ => 0) h1 h2 (by simp [sK, nO, u1]) q2 q3 (fun f hf => ?_)
    rw [q4 f hf]
    show some (defaultValue (kY kc f)) = _
    rw [← iFv_0 (kw_any kc (by omega) f hf)]
    simp [sI, sR, nO, uf]
theorem sd_newA {t : ArrayType} {ty : FieldType} {kd : Nat} {x : Int32} (C : iCtx D p s m meth c j) (h : iC j pc = some (.newarray t, len)) (hty : newarray.typeOf t = ty) (hw : Cond.arrayClass ty ∈ lw_tbl) (hx : ¬ x < 0) (hx2 : x.toNatClampNeg ≤ 100000) (hcb : componentBytes ty ≤ 8) (hx0 : x0 ≤ sX σ) (hs0 : s0 ≤ sS σ) (hc : sX σ - x0 + 1 ≤ R.cells) (hs : sS σ - s0 + x.toNatClampNeg ≤ R.slots) (hkd : kd ≠ 100)
    (hat : ∀ cA : ClassId, s.vm.findClass ("[" ++ ty.toString) = some cA → iAt D (nA σ kd x.toNatClampNeg) (sX σ) (some (arrV cA x.toNatClampNeg (fun _ => defaultValue ty))))
    (kk : iWG D base l p e R s m args below meth c x0 s0 o σe j (pc + len) ls (vr (sX σ) :: st) (nA σ kd x.toNatClampNeg)) : iWG D base l p e R s m args below meth c x0 s0 o σe j pc ls (vi x :: st) σ := by
  obtain ⟨hd, hn⟩ := iDec h
  cases iLen1 hn
  subst hty
  intro H locs arr hR hO hL hA
  obtain ⟨cx, cb, -, -, co, -, -, ct, cK, -⟩ := C
  have hb0 : sX σ ≠ 0 := by have := hR.2.1; have := hR.2.2.1; omega
  have hby : x.toNatClampNeg * componentBytes (newarray.typeOf t) ≤ 536870912 := Nat.le_trans (Nat.mul_le_mul hx2 hcb) (by decide)
  refine W.newa cx cb (ct.use hw rfl args) rfl hd rfl hx hby hc hs (fun cA kA comp f1 f2 f3 => ?_)
  generalize hH : H.push ({ cls := cA, slots := Array.replicate x.toNatClampNeg (defaultValue (newarray.typeOf t)), vm := .none } : Cell) = H'
  have g2 : H'.size = H.size + 1 := by rw [← hH, Array.size_push]
  have g1 : H'[sX σ - 1]? = some (arrV cA x.toNatClampNeg (fun _ => defaultValue (newarray.typeOf t))) := by rw [← hH, show sX σ - 1 = H.size by have := hR.1; omega, Array.getElem?_push_size, ← arrV_new]
  have g3 : ∀ q : Nat, q < H.size → H'[q]? = H[q]? := fun q hq => by rw [← hH, Array.getElem?_push, if_neg (Nat.ne_of_lt hq)]
  have e1 : sX σ - x0 + 1 = sX (nA σ kd x.toNatClampNeg) - x0 := by show _ = sX σ + 1 - x0; omega
  have e2 : sS σ - s0 + x.toNatClampNeg = sS (nA σ kd x.toNatClampNeg) - s0 := by show _ = sS σ + x.toNatClampNeg - s0; omega
  rw [e1, e2]
  have kk2 := kk H' locs arr (hR.new (σ' := nA σ kd x.toNatClampNeg) rfl (by simp [sK, nA, u1]; exact hkd) (fun b hb => iSame_nA hb) g2 g3 (by rw [g1]; exact hat cA f1)) (fun q hq => (g3 q (by have := hR.2.2.1; have := hR.1; omega)).trans (hO q hq)) hL hA
  rw [List.map_cons, cv_r hb0] at kk2
  rw [show H.size = sX σ - 1 by have := hR.1; omega]
  exact kk2
theorem sd_newV {k q : Nat} {x : Int32} (C : iCtx D p s m meth c j) (h : iC j pc = some (.anewarray k, len)) (hV : pV (mO j) k = some q) (hx : ¬ x < 0) (hx2 : x.toNatClampNeg ≤ 100000) (hx0 : x0 ≤ sX σ) (hs0 : s0 ≤ sS σ) (hc : sX σ - x0 + 1 ≤ R.cells) (hs : sS σ - s0 + x.toNatClampNeg ≤ R.slots)
    (kk : iWG D base l p e R s m args below meth c x0 s0 o σe j (pc + len) ls (vr (sX σ) :: st) (nA σ (110 + q) x.toNatClampNeg)) : iWG D base l p e R s m args below meth c x0 s0 o σe j pc ls (vi x :: st) σ := by
  obtain ⟨hd, hn⟩ := iDec h
  cases iLen1 hn
  intro H locs arr hR hO hL hA
  obtain ⟨cx, cb, -, -, co, -, -, ct, cK, -⟩ := C
  obtain ⟨w1, w2, ⟨h1, h2⟩, hq⟩ := iVx hV
  have hb0 : sX σ ≠ 0 := by have := hR.2.1; have := hR.2.2.1; omega
  refine W.anew cx cb co (ct.use w1 rfl args) (ct.use w2 rfl args) rfl hd rfl hx (Nat.le_trans (Nat.mul_le_mul_right 4 hx2) (by decide)) hc hs (fun cA kA comp f1 f2 f3 f4 => ?_)
  generalize hH : H.push ({ cls := cA, slots := Array.replicate x.toNatClampNeg .null, vm := .none } : Cell) = H'
  have g2 : H'.size = H.size + 1 := by rw [← hH, Array.size_push]
  have g1 : H'[sX σ - 1]? = some (arrV cA x.toNatClampNeg (fun _ => .null)) := by rw [← hH, show sX σ - 1 = H.size by have := hR.1; omega, Array.getElem?_push_size, ← arrV_new]
  have g3 : ∀ q : Nat, q < H.size → H'[q]? = H[q]? := fun q hq => by rw [← hH, Array.getElem?_push, if_neg (Nat.ne_of_lt hq)]
  have e1 : sX σ - x0 + 1 = sX (nA σ (110 + q) x.toNatClampNeg) - x0 := by show _ = sX σ + 1 - x0; omega
  have e2 : sS σ - s0 + x.toNatClampNeg = sS (nA σ (110 + q) x.toNatClampNeg) - s0 := by show _ = sS σ + x.toNatClampNeg - s0; omega
  have hcA : cA = D.2.2.2.2 q := by
    obtain ⟨kA2, comp2, -, -, -, k4⟩ := (iT3 cK hq).2
    exact Option.some.inj (f1.symm.trans k4)
  rw [e1, e2]
  have kk2 := kk H' locs arr (hR.new (σ' := nA σ (110 + q) x.toNatClampNeg) rfl (by simp [sK, nA, u1]; omega) (fun b hb => iSame_nA hb) g2 g3 ?_) (fun q hq => (g3 q (by have := hR.2.2.1; have := hR.1; omega)).trans (hO q hq)) hL hA
  · rw [List.map_cons, cv_r hb0] at kk2
    rw [show H.size = sX σ - 1 by have := hR.1; omega]
    exact kk2
  · refine iAt_11 hq (by simp [sK, nA, u1]) ?_
    rw [g1, hcA]
    simp [sN, sB, nA, u1, uz, cv_0]
end ST
