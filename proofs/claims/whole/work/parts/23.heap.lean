/-! STEPS ON THE HEAP. -/
set_option maxRecDepth 20000 in
theorem kw_in : ∀ c, c < 11 → ∀ w ∈ u_ws (kR c) (kT c) (kN c), w ∈ lw_tbl := by decide +kernel
theorem kw_ty : ∀ c, c < 11 → ∀ f, f < kN c → parseFieldDescriptor (kT c f).2.2.1 = some (kY c f) := by decide +kernel
theorem kw_nm : ∀ c, c < 11 → ∀ a, a < kN c → ∀ b, b < kN c → a ≠ b → (kT c a).2.1 ≠ (kT c b).2.1 := by decide +kernel
theorem kw_ow : ∀ c, c < 11 → ∀ f, f < kN c → (kT c f).1 = kR c := by decide +kernel
theorem kw_32 : ∀ c, c < 11 → kN c < 64 := by decide +kernel
theorem kw_vw {c : Nat} (h1 : 1 ≤ c) (h2 : c ≤ 10) : vwC[c - 1]? = some (kR c, kT c, kN c) := by
  rcases (by omega : c = 1 ∨ c = 2 ∨ c = 3 ∨ c = 4 ∨ c = 5 ∨ c = 6 ∨ c = 7 ∨ c = 8 ∨ c = 9 ∨ c = 10) with rfl | rfl | rfl | rfl | rfl | rfl | rfl | rfl | rfl | rfl <;> rfl
theorem u_ws_gw {C : String} {T : u_T} {N : Nat} : ∀ w ∈ u_ws C T N, iGW w = true := by
  intro w hw
  obtain ⟨k, -, rfl⟩ := List.mem_map.mp hw
  unfold u_lay
  split <;> rfl
theorem iTw.lay {s : State} (h : iTw s) {c : Nat} (h2 : c ≤ 10) (args : Array Value) : ∀ w ∈ u_ws (kR c) (kT c) (kN c), w.before args s = true :=
  fun w hw => h.use (kw_in c (by omega) w hw) (u_ws_gw w hw) args
def iVv (t : Nat) (x : Int32) (a : Nat) : iV := match t with
  | 2 => vr a
  | _ => vi x
theorem iFv_t {t : Nat} {ty : FieldType} {x : Int32} {a : Nat} (h : iTyOk t ty = true) : iFv ty x a = cv (iVv t x a) := by
  match t, ty, h with
  | 0, .int, _ => rfl
  | 1, .boolean, _ => rfl
  | 2, .object _, _ => rfl
  | 2, .array _, _ => rfl
section SH
variable {D : iD} {base : Nat} {l : Launch} {p : Program} {e : Env} {R : Room} {s : State} {m : MethodId} {args : Array Value} {below : List Frame} {meth : Method} {c : Code} {x0 s0 : Nat} {o : iO} {σe : iS} {j pc len : Nat} {ls st : List iV} {σ : iS}
theorem sd_getf {k kc f t a : Nat} (C : iCtx D p s m meth c j) (h : iC j pc = some (.getfield k, len)) (hF : pF (mO j) k = some (kc, f, t)) (hk : sK σ a = kc) (kk : iWG D base l p e R s m args below meth c x0 s0 o σe j (pc + len) ls (iVv t (sI σ (kc * 32 + f) a) (sR σ (kc * 32 + f) a) :: st) σ) : iWG D base l p e R s m args below meth c x0 s0 o σe j pc ls (vr a :: st) σ := by
  obtain ⟨hd, hn⟩ := iDec h
  cases iLen1 hn
  intro H locs arr hR hO hL hA
  obtain ⟨hl, hf, ⟨h1, h2⟩, ht⟩ := iFx hF
  obtain ⟨cx, cb, -, -, co, -, -, ct, cK, -⟩ := C
  have hk0 : sK σ a ≠ 0 := by omega
  obtain ⟨cell, e1, e2, e3, e4⟩ := (hR.2.2.2.2.2 a).1 (by omega) (by omega)
  rw [hk] at e2 e4
  obtain ⟨hS, hfc, kC, hkC, hkind⟩ := cK.1 (kc - 1) _ (kw_vw h1 h2)
  obtain ⟨cf, kf, fi, fd, hi, hsl⟩ := hS f hf
  have hlay := ct.lay h2 args
  have hst := (u_facts hfc hkC (u_lays hlay (fun _ h => h) hf) hi).1
  rw [kw_ow kc (by omega) f hf] at hi
  have hv : cell.slots[fd.slot]? = some (cv (iVv t (sI σ (kc * 32 + f) a) (sR σ (kc * 32 + f) a))) := by
    rw [hsl, e4 f hf, iFv_t ht]
  rw [List.map_cons, cv_r (hR.lt hk0).1]
  rcases hl with hl | hl
  · exact W.getf cx cb co (ct.use hl rfl args) hi hst e1 (by rw [e3]; exact fun h => by cases h) hv rfl rfl hd (kk H locs arr hR hO hL hA)
  · exact va_Wgetf cx cb co (ct.use hl rfl args) hi hst e1 (by rw [e3]; exact fun h => by cases h) hv rfl rfl hd (kk H locs arr hR hO hL hA)
theorem iSame_wI {f a b : Nat} {x : Int32} (hb : b ≠ a) : iSame σ (wI σ f a x) b := ⟨rfl, rfl, fun g => by simp [sI, wI, u2, hb], fun _ => rfl, fun _ => rfl, fun _ => rfl, fun _ => rfl⟩
theorem iSame_wR {f a b x : Nat} (hb : b ≠ a) : iSame σ (wR σ f a x) b := ⟨rfl, rfl, fun _ => rfl, fun g => by simp [sR, wR, u2, hb], fun _ => rfl, fun _ => rfl, fun _ => rfl⟩
theorem iSame_wA {i a b : Nat} {x : Int32} (hb : b ≠ a) : iSame σ (wA σ a i x) b := ⟨rfl, rfl, fun _ => rfl, fun _ => rfl, fun q => by simp [sA, wA, u2, hb], fun _ => rfl, fun _ => rfl⟩
theorem iSame_wB {i a b x : Nat} (hb : b ≠ a) : iSame σ (wB σ a i x) b := ⟨rfl, rfl, fun _ => rfl, fun _ => rfl, fun _ => rfl, fun q => by simp [sB, wB, u2, hb], fun _ => rfl⟩
theorem iSame_wL {i a b : Nat} {x : Int64} (hb : b ≠ a) : iSame σ (wL σ a i x) b := ⟨rfl, rfl, fun _ => rfl, fun _ => rfl, fun _ => rfl, fun _ => rfl, fun q => by simp [sL, wL, u2, hb]⟩
theorem iSame_nO {k n b : Nat} (hb : b ≠ sX σ) : iSame σ (nO σ k n) b := ⟨by simp [sK, nO, u1]; exact fun h => absurd h hb, rfl, fun g => by simp [sI, nO, uf]; exact fun h => absurd h hb, fun g => by simp [sR, nO, uf]; exact fun h => absurd h hb, fun _ => rfl, fun _ => rfl, fun _ => rfl⟩
theorem iSame_nA {k n b : Nat} (hb : b ≠ sX σ) : iSame σ (nA σ k n) b := ⟨by simp [sK, nA, u1]; exact fun h => absurd h hb, by simp [sN, nA, u1]; exact fun h => absurd h hb, fun _ => rfl, fun _ => rfl, fun g => by simp [sA, nA, uz]; exact fun h => absurd h hb, fun g => by simp [sB, nA, uz]; exact fun h => absurd h hb, fun g => by simp [sL, nA, uz]; exact fun h => absurd h hb⟩
/-- what is stored behind a field's write: the same cell with one slot changed -/
theorem iAt_obj {kc a : Nat} {cell : Cell} {σ' : iS} {fI : Nat → Int32} (h1 : 1 ≤ kc) (h2 : kc ≤ 10) (hk : sK σ' a = kc) (q2 : cell.cls = D.1.1 (kc - 1)) (q3 : cell.vm = .none) (q4 : ∀ f, f < kN kc → cell.slots[D.1.2 (kc - 1) f]? = some (iFv (kY kc f) (sI σ' (kc * 32 + f) a) (sR σ' (kc * 32 + f) a))) : iAt D σ' a (some cell) := by
  unfold iAt
  rw [hk]
  refine ⟨fun _ _ => ⟨cell, rfl, q2, q3, q4⟩, fun h => ?_, fun h => ?_, fun h => ?_, fun h => ?_, fun c hc h => ?_, Or.inl h2⟩ <;> omega
theorem sd_putf {k kc f t a : Nat} {v : iV} {σ' : iS} (C : iCtx D p s m meth c j) (h : iC j pc = some (.putfield k, len)) (hF : pF (mO j) k = some (kc, f, t)) (hfin : (kT kc f).2.2.2 = false ∨ ((iY j).name = "<init>" ∧ iOw j = kR kc)) (hk : sK σ a = kc)
    (hn1 : narrow (kY kc f) (cv v) = cv v) (hn2 : fits (kY kc f) (cv v) = true) (hx : sX σ' = sX σ) (hs : sS σ' = sS σ) (hK : ∀ b, sK σ' b = sK σ b) (hsm : ∀ b, b ≠ a → iSame σ σ' b)
    (hf0 : ∀ g, g < kN kc → iFv (kY kc g) (sI σ' (kc * 32 + g) a) (sR σ' (kc * 32 + g) a) = if g = f then cv v else iFv (kY kc g) (sI σ (kc * 32 + g) a) (sR σ (kc * 32 + g) a))
    (kk : iWG D base l p e R s m args below meth c x0 s0 o σe j (pc + len) ls st σ') : iWG D base l p e R s m args below meth c x0 s0 o σe j pc ls (v :: vr a :: st) σ := by
  obtain ⟨hd, hn⟩ := iDec h
  cases iLen1 hn
  intro H locs arr hR hO hL hA
  obtain ⟨hl, hf, ⟨h1, h2⟩, ht⟩ := iFx hF
  obtain ⟨cx, cb, -, -, co, -, cn, ct, cK, -⟩ := C
  have hk0 : sK σ a ≠ 0 := by omega
  have hba : base ≤ a - 1 := by have := hR.2.2.2.2.1 a hk0 (by omega); omega
  obtain ⟨cell, e1, e2, e3, e4⟩ := (hR.2.2.2.2.2 a).1 (by omega) (by omega)
  rw [hk] at e2 e4
  have hvw := kw_vw h1 h2
  have hlay := ct.lay h2 args
  have hap := va_apart (own := iOw j) hlay (fun _ h => h) (kY kc) (kw_ty kc (by omega)) (kw_nm kc (by omega)) cK hvw
  obtain ⟨hS, hfc, kC, hkC, hkind⟩ := cK.1 (kc - 1) _ hvw
  obtain ⟨cf, kf, fi, fd, hi, hsl⟩ := hS f hf
  have hly := hlay _ (u_in_lay hf)
  have hst := (u_facts hfc hkC (u_lays hlay (fun _ h => h) hf) hi).1
  have hty := kw_ty kc (by omega) f hf
  have hi2 := hi
  rw [kw_ow kc (by omega) f hf] at hi2
  have fin : ∀ H' : Heap, H'[a - 1]? = some (cell.setSlot fd.slot (cv v)) → H'.size = H.size → (∀ q, q ≠ a - 1 → H'[q]? = H[q]?) → W p l e R s m args below meth c H' (locs ++ [⟨a - 1, fd.slot⟩]) (sX σ - x0) (sS σ - s0) (iEnd D base below s o σe (sX σe - x0) (sS σe - s0)) (F0 m (pc + 3) arr (st.map cv)) := by
    intro H' g1 g2 g3
    rw [← hx, ← hs]
    refine kk H' _ arr (hR.put (hR.lt hk0).1 hK hx hsm g2 g3 ?_) (fun q hq => (g3 q (by omega)).trans (hO q hq)) (fun z hz => ?_) hA
    · rw [g1]
      refine iAt_obj (fI := fun _ => 0) h1 h2 ((hK a).trans hk) e2 e3 (fun g hg => ?_)
      rw [hsl, t_set (V := fun g => iFv (kY kc g) (sI σ (kc * 32 + g) a) (sR σ (kc * 32 + g) a)) e4 hap hf (cv v) g hg, hf0 g hg]
      rfl
    · rcases List.mem_append.mp hz with hz | hz
      · exact hL z hz
      · rw [List.mem_singleton.mp hz]; exact hba
  rw [List.map_cons, List.map_cons, cv_r (hR.lt hk0).1]
  have hlt : fd.slot < cell.slots.size := by rw [hsl]; exact k2_hasslot (e4 f hf)
  cases hfn : (kT kc f).2.2.2 with
  | false =>
    unfold u_lay at hly
    rw [if_neg (by rw [hfn]; decide)] at hly
    have h6 := u_store hfc hkC hkind hly hi hty hn1 hn2
    rcases hl with hl | hl
    · exact W.putK cx cb (f := fd) ⟨co, ct.use hl rfl args, ⟨_, _, _, hi2⟩, hst⟩ (by rw [e2]; exact h6) e1 e3 hlt rfl rfl hd fin
    · exact va_WputK cx cb (f := fd) co (ct.use hl rfl args) hi2 hst (by rw [e2]; exact h6) e1 e3 hlt rfl rfl hd fin
  | true =>
    unfold u_lay at hly
    rw [if_pos hfn] at hly
    rcases hfin with hfin | ⟨q1, q2⟩
    · rw [hfn] at hfin; cases hfin
    · have hcf : m.cls = cf := by
        obtain ⟨_, _, c', _, _, _, -, -, hf', -, -, -, hown2, -⟩ := Cond.laysFinal_spec hly
        have e9 : c' = cf := by have := hi.symm.trans hf'; simp at this; exact this.1.symm
        rw [kw_ow kc (by omega) f hf, ← q2] at hown2
        rw [← e9]; exact Option.some.inj (co.symm.trans hown2)
      have h6 := u_fits hfc hkC hkind (Or.inr hly) hi hty hn1 hn2
      rcases hl with hl | hl
      · exact W.putFinK cx cb co (ct.use hl rfl args) hi2 hst hcf (cn.trans q1) (by rw [e2]; exact h6) e1 e3 hlt rfl rfl hd fin
      · have ha : a - 1 < H.size := (Array.getElem?_eq_some_iff.mp e1).1
        refine va_Wputf cx cb co (ct.use hl rfl args) hi2 hst (Or.inr ⟨hcf, cn.trans q1⟩) e1 (by rw [e3]; exact fun h => by cases h) hlt h6.1 (by rw [e2, e3]; exact h6.2) rfl rfl hd ?_
        refine fin _ ?_ ?_ ?_
        · simp [Array.getElem?_setIfInBounds, ha]
        · simp
        · intro q hq
          simp [Array.getElem?_setIfInBounds, Ne.symm hq]
theorem iT0 (cK : va_K D.1 vwC (iTys D) s) : ArrOfT s D.2.1 .int ∧ va_RA s D.2.1 .int := cK.2 0 (D.2.1, .int) rfl
theorem iT1 (cK : va_K D.1 vwC (iTys D) s) : ArrOfT s D.2.2.1 .boolean ∧ va_RA s D.2.2.1 .boolean := cK.2 1 (D.2.2.1, .boolean) rfl
theorem iT2 (cK : va_K D.1 vwC (iTys D) s) : ArrOfT s D.2.2.2.1 .long ∧ va_RA s D.2.2.2.1 .long := cK.2 2 (D.2.2.2.1, .long) rfl
theorem iT3 (cK : va_K D.1 vwC (iTys D) s) {q : Nat} (hq : q = 2 ∨ q = 4 ∨ q = 6 ∨ q = 9) : ArrOfT s (D.2.2.2.2 q) (.object (kR q)) ∧ va_RA s (D.2.2.2.2 q) (.object (kR q)) := by
  rcases hq with rfl | rfl | rfl | rfl
  · exact cK.2 3 (D.2.2.2.2 2, .object (kR 2)) rfl
  · exact cK.2 4 (D.2.2.2.2 4, .object (kR 4)) rfl
  · exact cK.2 5 (D.2.2.2.2 6, .object (kR 6)) rfl
  · exact cK.2 6 (D.2.2.2.2 9, .object (kR 9)) rfl
/-- an array's cell: its class, that it is one, its length -/
theorem iArrC (cK : va_K D.1 vwC (iTys D) s) (cA : ArrOfT s (D.2.2.2.2 0) .int) {H : Heap} {a : Nat} (hR : iRel D base σ H) (ha : iArr (sK σ a) = true) : ∃ (cell : Cell) (ty : FieldType), H[a - 1]? = some cell ∧ s.isArrayOf cell ty ∧ cell.slots.size = sN σ a := by
  have hv := (hR.2.2.2.2.2 a).2.2.2.2.2.2
  unfold iArr at ha
  rw [Bool.and_eq_true] at ha
  have h1 := Nat.le_of_ble_eq_true ha.1
  have h2 := Nat.le_of_ble_eq_true ha.2
  rcases hv with h | h | h | h | h | h | h
  · omega
  · rcases (by omega : sK σ a = 100 ∨ sK σ a = 101 ∨ sK σ a = 102 ∨ sK σ a = 103) with q | q | q | q
    · obtain ⟨cell, e1, e2, e3, -, e5, -⟩ := (hR.2.2.2.2.2 a).2.1 q
      obtain ⟨-, kk, hk, comp, hc⟩ := cA 0 (fun _ => .null)
      exact ⟨cell, .int, e1, ⟨e3, kk, by rw [e2]; exact hk, comp, hc⟩, e5⟩
    · exact ⟨_, .int, (hR.2.2.2.2.2 a).2.2.1 q, (iT0 cK).1 _ _, arrV_size _ _ _⟩
    · exact ⟨_, .boolean, (hR.2.2.2.2.2 a).2.2.2.1 q, (iT1 cK).1 _ _, arrV_size _ _ _⟩
    · exact ⟨_, .long, (hR.2.2.2.2.2 a).2.2.2.2.1 q, (iT2 cK).1 _ _, arrV_size _ _ _⟩
  · exact ⟨_, _, (hR.2.2.2.2.2 a).2.2.2.2.2.1 2 (by omega) (by omega), (iT3 cK (by omega)).1 _ _, arrV_size _ _ _⟩
  · exact ⟨_, _, (hR.2.2.2.2.2 a).2.2.2.2.2.1 4 (by omega) (by omega), (iT3 cK (by omega)).1 _ _, arrV_size _ _ _⟩
  · exact ⟨_, _, (hR.2.2.2.2.2 a).2.2.2.2.2.1 6 (by omega) (by omega), (iT3 cK (by omega)).1 _ _, arrV_size _ _ _⟩
  · exact ⟨_, _, (hR.2.2.2.2.2 a).2.2.2.2.2.1 9 (by omega) (by omega), (iT3 cK (by omega)).1 _ _, arrV_size _ _ _⟩
  · omega
theorem sd_alen {a : Nat} (C : iCtx D p s m meth c j) (h : iC j pc = some (.arraylength, len)) (hk : iArr (sK σ a) = true) (kk : iWG D base l p e R s m args below meth c x0 s0 o σe j (pc + len) ls (vi (nI (sN σ a)) :: st) σ) : iWG D base l p e R s m args below meth c x0 s0 o σe j pc ls (vr a :: st) σ := by
  obtain ⟨hd, hn⟩ := iDec h
  cases iLen1 hn
  intro H locs arr hR hO hL hA
  obtain ⟨cx, cb, -, -, co, -, -, ct, cK, -, cA⟩ := C
  obtain ⟨cell, ty, e1, e2, e3⟩ := iArrC cK cA hR hk
  have hk0 : sK σ a ≠ 0 := by intro z; rw [z] at hk; cases hk
  rw [List.map_cons, cv_r (hR.lt hk0).1]
  exact W.alen cx cb e1 e2 (by rw [e3]; rfl) rfl rfl hd (kk H locs arr hR hO hL hA)
theorem iCl {x : Int32} {n : Nat} (h : iIn x n) : x.toNatClampNeg < n := Nat.not_le.mp fun q => h (Or.inr q)
theorem sd_iald {a : Nat} {x : Int32} (C : iCtx D p s m meth c j) (h : iC j pc = some (.iaload, len)) (hk : sK σ a = 100 ∨ sK σ a = 101) (hi : iIn x (sN σ a)) (kk : iWG D base l p e R s m args below meth c x0 s0 o σe j (pc + len) ls (vi (sA σ a x.toNatClampNeg) :: st) σ) : iWG D base l p e R s m args below meth c x0 s0 o σe j pc ls (vi x :: vr a :: st) σ := by
  obtain ⟨hd, hn⟩ := iDec h
  cases iLen1 hn
  intro H locs arr hR hO hL hA
  obtain ⟨cx, cb, -, -, co, -, -, ct, cK, -, cA⟩ := C
  have hk0 : sK σ a ≠ 0 := by omega
  rw [List.map_cons, List.map_cons, cv_r (hR.lt hk0).1]
  rcases hk with q | q
  · obtain ⟨cell, e1, e2, e3, e4, e5, -, e6⟩ := (hR.2.2.2.2.2 a).2.1 q
    obtain ⟨-, kk9, hk9, comp, hc9⟩ := cA 0 (fun _ => .null)
    exact W.iald cx cb e1 ⟨e3, kk9, by rw [e2]; exact hk9, comp, hc9⟩ e4 (by rw [e5]; exact hi) (e6 _ (iCl hi)) rfl rfl hd (kk H locs arr hR hO hL hA)
  · exact W.iald cx cb ((hR.2.2.2.2.2 a).2.2.1 q) ((iT0 cK).1 _ _) (fun q => by cases q) (by rw [arrV_size]; exact hi) (arrV_read _ _ (iCl hi)) rfl rfl hd (kk H locs arr hR hO hL hA)
theorem sd_bald {a : Nat} {x : Int32} (C : iCtx D p s m meth c j) (h : iC j pc = some (.baload, len)) (hk : sK σ a = 102) (hi : iIn x (sN σ a)) (kk : iWG D base l p e R s m args below meth c x0 s0 o σe j (pc + len) ls (vi (sA σ a x.toNatClampNeg) :: st) σ) : iWG D base l p e R s m args below meth c x0 s0 o σe j pc ls (vi x :: vr a :: st) σ := by
  obtain ⟨hd, hn⟩ := iDec h
  cases iLen1 hn
  intro H locs arr hR hO hL hA
  obtain ⟨cx, cb, -, -, co, -, -, ct, cK, -⟩ := C
  have hk0 : sK σ a ≠ 0 := by omega
  rw [List.map_cons, List.map_cons, cv_r (hR.lt hk0).1]
  exact W.zald cx cb ((hR.2.2.2.2.2 a).2.2.2.1 hk) ((iT1 cK).1 _ _) (fun q => by cases q) (by rw [arrV_size]; exact hi) (arrV_read _ _ (iCl hi)) rfl rfl hd (kk H locs arr hR hO hL hA)
theorem sd_lald {a : Nat} {x : Int32} (C : iCtx D p s m meth c j) (h : iC j pc = some (.laload, len)) (hk : sK σ a = 103) (hi : iIn x (sN σ a)) (kk : iWG D base l p e R s m args below meth c x0 s0 o σe j (pc + len) ls (vl (sL σ a x.toNatClampNeg) :: st) σ) : iWG D base l p e R s m args below meth c x0 s0 o σe j pc ls (vi x :: vr a :: st) σ := by
  obtain ⟨hd, hn⟩ := iDec h
  cases iLen1 hn
  intro H locs arr hR hO hL hA
  obtain ⟨cx, cb, -, -, co, -, -, ct, cK, -⟩ := C
  have hk0 : sK σ a ≠ 0 := by omega
  rw [List.map_cons, List.map_cons, cv_r (hR.lt hk0).1]
  exact W.lald cx cb ((hR.2.2.2.2.2 a).2.2.2.2.1 hk) ((iT2 cK).1 _ _) (fun q => by cases q) (by rw [arrV_size]; exact hi) (arrV_read _ _ (iCl hi)) rfl rfl hd (kk H locs arr hR hO hL hA)
/-- an array of references: which kind -/
theorem iRk {a : Nat} {H : Heap} (hR : iRel D base σ H) (hk : 110 ≤ sK σ a ∧ sK σ a < 200) : ∃ q, (q = 2 ∨ q = 4 ∨ q = 6 ∨ q = 9) ∧ sK σ a = 110 + q ∧ H[a - 1]? = some (arrV (D.2.2.2.2 q) (sN σ a) (fun z => cv (vr (sB σ a z)))) := by
  have hv := (hR.2.2.2.2.2 a).2.2.2.2.2.2
  obtain ⟨q, hq, hk2⟩ : ∃ q, (q = 2 ∨ q = 4 ∨ q = 6 ∨ q = 9) ∧ sK σ a = 110 + q := ⟨sK σ a - 110, by omega, by omega⟩
  exact ⟨q, hq, hk2, (hR.2.2.2.2.2 a).2.2.2.2.2.1 q hq hk2⟩
theorem sd_aald {a : Nat} {x : Int32} (C : iCtx D p s m meth c j) (h : iC j pc = some (.aaload, len)) (hk : 110 ≤ sK σ a ∧ sK σ a < 200) (hi : iIn x (sN σ a)) (kk : iWG D base l p e R s m args below meth c x0 s0 o σe j (pc + len) ls (vr (sB σ a x.toNatClampNeg) :: st) σ) : iWG D base l p e R s m args below meth c x0 s0 o σe j pc ls (vi x :: vr a :: st) σ := by
  obtain ⟨hd, hn⟩ := iDec h
  cases iLen1 hn
  intro H locs arr hR hO hL hA
  obtain ⟨cx, cb, -, -, co, -, -, ct, cK, -⟩ := C
  have hk0 : sK σ a ≠ 0 := by omega
  rw [List.map_cons, List.map_cons, cv_r (hR.lt hk0).1]
  obtain ⟨q, hq, -, e1⟩ := iRk hR hk
  exact W.aald (ty := .object (kR q)) cx cb e1 ((iT3 cK hq).1 _ _) rfl (fun q => by cases q) (by rw [arrV_size]; exact hi) (arrV_read _ _ (iCl hi)) rfl rfl hd (kk H locs arr hR hO hL hA)
end SH
