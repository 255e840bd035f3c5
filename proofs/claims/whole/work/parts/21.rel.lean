/-! HOW THE IDEAL MACHINE LIES IN THE REAL ONE: values, cells, what the tables say at a state. -/
def cv : iV → Value
  | .inl x => .int x
  | .inr (.inl a) => if a = 0 then .null else .ref (a - 1)
  | .inr (.inr y) => .long y
theorem cv_r {a : Nat} (h : a ≠ 0) : cv (vr a) = .ref (a - 1) := if_neg h
theorem cv_0 : cv (vr 0) = .null := rfl
theorem cv_ref (a : Nat) : (cv (vr a)).isRef = true := by
  by_cases h : a = 0
  · subst h; rfl
  · rw [cv_r h]; rfl
theorem cv_cat1 (a : Nat) : (cv (vr a)).category = 1 := by
  by_cases h : a = 0
  · subst h; rfl
  · rw [cv_r h]; rfl
/-- class numbers and slots of the own classes; the array classes: int, boolean, long, and of references by kind -/
abbrev iD : Type := va_G × ClassId × ClassId × ClassId × (Nat → ClassId)
def iTys (D : iD) : List (ClassId × FieldType) := [(D.2.1, .int), (D.2.2.1, .boolean), (D.2.2.2.1, .long), (D.2.2.2.2 2, .object (kR 2)), (D.2.2.2.2 4, .object (kR 4)), (D.2.2.2.2 6, .object (kR 6)), (D.2.2.2.2 9, .object (kR 9))]
def iEx : Nat → String
  | 1 => "java/lang/IllegalArgumentException"
  | 2 => "java/lang/IllegalStateException"
  | _ => ""
/-- a field's value, of its type -/
def iFv (t : FieldType) (x : Int32) (a : Nat) : Value := match t with
  | .int => .int x
  | .boolean => .int x
  | _ => cv (vr a)
/-- a cell of kind k: its length, its fields, its elements -/
def iCell (D : iD) (k n : Nat) (fI : Nat → Int32) (fR : Nat → Nat) (eA : Nat → Int32) (eB : Nat → Nat) (eL : Nat → Int64) (oc : Option Cell) : Prop :=
  (1 ≤ k → k ≤ 10 → ∃ cell : Cell, oc = some cell ∧ cell.cls = D.1.1 (k - 1) ∧ cell.vm = .none ∧ ∀ f, f < kN k → cell.slots[D.1.2 (k - 1) f]? = some (iFv (kY k f) (fI (k * 32 + f)) (fR (k * 32 + f)))) ∧
  (k = 100 → ∃ cell : Cell, oc = some cell ∧ cell.cls = D.2.2.2.2 0 ∧ (∀ z, cell.vm ≠ .statics z) ∧ cell.vm ≠ .unknown ∧ cell.slots.size = n ∧ n < 2 ^ 31 ∧ ∀ q : Nat, q < n → cell.slots[q]? = some (.int (eA q))) ∧
  (k = 101 → oc = some (arrV D.2.1 n (fun q => .int (eA q)))) ∧
  (k = 102 → oc = some (arrV D.2.2.1 n (fun q => .int (eA q)))) ∧
  (k = 103 → oc = some (arrV D.2.2.2.1 n (fun q => .long (eL q)))) ∧
  (∀ c, c = 2 ∨ c = 4 ∨ c = 6 ∨ c = 9 → k = 110 + c → oc = some (arrV (D.2.2.2.2 c) n (fun q => cv (vr (eB q))))) ∧
  (k ≤ 10 ∨ (100 ≤ k ∧ k ≤ 103) ∨ k = 112 ∨ k = 114 ∨ k = 116 ∨ k = 119 ∨ 200 ≤ k)
def iAt (D : iD) (σ : iS) (a : Nat) (oc : Option Cell) : Prop := iCell D (sK σ a) (sN σ a) (fun f => sI σ f a) (fun f => sR σ f a) (sA σ a) (sB σ a) (sL σ a) oc
/-- the heap holds what the ideal one has; base: where the new cells begin -/
def iRel (D : iD) (base : Nat) (σ : iS) (H : Heap) : Prop :=
  H.size + 1 = sX σ ∧ 0 < base ∧ base < sX σ ∧ (∀ a, sK σ a ≠ 0 → a < sX σ ∧ a ≠ 0) ∧ (∀ a, sK σ a ≠ 0 → sK σ a ≠ 100 → base < a) ∧ ∀ a : Nat, iAt D σ a H[a - 1]?
/-- σ' has at a what σ has -/
def iSame (σ σ' : iS) (a : Nat) : Prop := sK σ' a = sK σ a ∧ sN σ' a = sN σ a ∧ (∀ f, sI σ' f a = sI σ f a) ∧ (∀ f, sR σ' f a = sR σ f a) ∧ (∀ q, sA σ' a q = sA σ a q) ∧ (∀ q, sB σ' a q = sB σ a q) ∧ ∀ q, sL σ' a q = sL σ a q
theorem iAt.same {D : iD} {σ σ' : iS} {a : Nat} {oc : Option Cell} (h : iAt D σ a oc) (hs : iSame σ σ' a) : iAt D σ' a oc := by
  obtain ⟨h1, h2, h3, h4, h5, h6, h7⟩ := hs
  unfold iAt at h ⊢
  rw [h1, h2, show (fun f => sI σ' f a) = fun f => sI σ f a from funext h3, show (fun f => sR σ' f a) = fun f => sR σ f a from funext h4, show sA σ' a = sA σ a from funext h5, show sB σ' a = sB σ a from funext h6, show sL σ' a = sL σ a from funext h7]
  exact h
/-- nothing is said of a cell that is no cell -/
theorem iAt_0 {D : iD} {σ : iS} {a : Nat} {oc : Option Cell} (hk : sK σ a = 0) : iAt D σ a oc := by
  unfold iAt
  rw [hk]
  exact ⟨fun h => by omega, fun h => by omega, fun h => by omega, fun h => by omega, fun h => by omega, fun c hc h => by omega, by omega⟩
/-- a write at a -/
theorem iRel.put {D : iD} {base : Nat} {σ σ' : iS} {H H' : Heap} {a : Nat} (h : iRel D base σ H) (ha0 : a ≠ 0) (hk : ∀ b, sK σ' b = sK σ b) (hx : sX σ' = sX σ) (ho : ∀ b, b ≠ a → iSame σ σ' b) (hz : H'.size = H.size) (hq : ∀ q : Nat, q ≠ a - 1 → H'[q]? = H[q]?) (ha : iAt D σ' a H'[a - 1]?) : iRel D base σ' H' := by
  obtain ⟨h1, h2, h3, h4, h5, h6⟩ := h
  refine ⟨by rw [hz, hx]; exact h1, h2, by rw [hx]; exact h3, fun b hb => by rw [hx]; exact h4 b (by rw [← hk b]; exact hb), fun b hb hb2 => h5 b (by rw [← hk b]; exact hb) (by rw [← hk b]; exact hb2), fun b => ?_⟩
  by_cases hb : b = a
  · subst hb; exact ha
  · by_cases hb0 : b = 0
    · subst hb0
      refine iAt_0 ?_
      rw [hk 0]
      exact Classical.byContradiction fun hz => (h4 0 hz).2 rfl
    · rw [hq (b - 1) (by omega)]; exact (h6 b).same (ho b hb)
/-- a new cell -/
theorem iRel.new {D : iD} {base : Nat} {σ σ' : iS} {H H' : Heap} (h : iRel D base σ H) (hx : sX σ' = sX σ + 1) (hk : sK σ' (sX σ) ≠ 100) (ho : ∀ b, b ≠ sX σ → iSame σ σ' b) (hz : H'.size = H.size + 1) (hq : ∀ q : Nat, q < H.size → H'[q]? = H[q]?) (ha : iAt D σ' (sX σ) H'[sX σ - 1]?) : iRel D base σ' H' := by
  obtain ⟨h1, h2, h3, h4, h5, h6⟩ := h
  refine ⟨by omega, h2, by omega, fun b hb => ?_, fun b hb hb2 => ?_, fun b => ?_⟩
  · by_cases hb0 : b = sX σ
    · subst hb0; omega
    · rw [(ho b hb0).1] at hb
      have := h4 b hb
      omega
  · by_cases hb0 : b = sX σ
    · subst hb0; omega
    · rw [(ho b hb0).1] at hb hb2
      exact h5 b hb hb2
  · by_cases hb0 : b = sX σ
    · subst hb0; exact ha
    · have hs := ho b hb0
      by_cases hlt : b - 1 < H.size
      · rw [hq (b - 1) hlt]; exact (h6 b).same hs
      · have hn : H'[b - 1]? = none := by rw [Array.getElem?_eq_none_iff]; omega
        have hn2 : H[b - 1]? = none := by rw [Array.getElem?_eq_none_iff]; omega
        rw [hn, ← hn2]; exact (h6 b).same hs
theorem iRel.lt {D : iD} {base : Nat} {σ : iS} {H : Heap} (h : iRel D base σ H) {a : Nat} (ha : sK σ a ≠ 0) : a ≠ 0 ∧ a - 1 < H.size := ⟨(h.2.2.2.1 a ha).2, by have := h.1; have := (h.2.2.2.1 a ha).1; have := (h.2.2.2.1 a ha).2; omega⟩
/-- the slots of a frame: known ints and references -/
def iLoc (arr : Array Slot) (n : Nat) (ls : List iV) : Prop := arr.size = n ∧ ls.length = n ∧ lv_wf arr ∧ ∀ (k : Nat) (v : iV), ls[k]? = some v → (∀ y, v ≠ vl y) → arr[k]? = some (.val (cv v))
/-- the listed pairs -/
def iP1 (k : Nat) : Option iV → Option (Nat × Value)
  | some (.inl x) => some (k, .int x)
  | some (.inr (.inl a)) => some (k, cv (vr a))
  | _ => none
def iPr (ls : List iV) : List (Nat × Value) := (List.range ls.length).filterMap (fun k => iP1 k ls[k]?)
theorem iPr_mem {ls : List iV} {k : Nat} {v : iV} (h : ls[k]? = some v) (hv : ∀ y, v ≠ vl y) : (k, cv v) ∈ iPr ls := by
  have hk : k < ls.length := (List.getElem?_eq_some_iff.mp h).1
  refine List.mem_filterMap.mpr ⟨k, List.mem_range.mpr hk, ?_⟩
  rw [h]
  match v, hv with
  | .inl x, _ => rfl
  | .inr (.inl a), _ => rfl
  | .inr (.inr y), hv => exact absurd rfl (hv y)
theorem iPr_inv {ls : List iV} {q : Nat × Value} (h : q ∈ iPr ls) : ∃ v, ls[q.1]? = some v ∧ (∀ y, v ≠ vl y) ∧ q.2 = cv v := by
  obtain ⟨k, -, hk⟩ := List.mem_filterMap.mp h
  cases hl : ls[k]? with
  | none => rw [hl] at hk; cases hk
  | some v =>
    rw [hl] at hk
    match v, hl, hk with
    | .inl x, hl, hk => cases hk; exact ⟨_, hl, fun y h => (by cases h), rfl⟩
    | .inr (.inl a), hl, hk => cases hk; exact ⟨_, hl, fun y h => (by cases h), rfl⟩
    | .inr (.inr y), hl, hk => cases hk
theorem iLoc.has {arr : Array Slot} {n : Nat} {ls : List iV} (h : iLoc arr n ls) : lv_has arr n (iPr ls) := by
  refine ⟨h.1, h.2.2.1, fun q hq => ?_⟩
  obtain ⟨v, h1, h2, h3⟩ := iPr_inv hq
  rw [h3]
  exact h.2.2.2 _ v h1 h2
theorem iLoc.store {arr arr' : Array Slot} {n k : Nat} {ls : List iV} {v : iV} (h : iLoc arr n ls) (hk : k < n) (hv : ∀ y, v ≠ vl y) (h' : lv_has arr' n ((k, cv v) :: (iPr ls).filter (fun q => !(q.1 == k) && !(q.1 + 1 == k && q.2.category == 2)))) : iLoc arr' n (ls.set k v) := by
  obtain ⟨h1, h2, h3⟩ := h'
  refine ⟨h1, by rw [List.length_set]; exact h.2.1, h2, fun i w hi hw => ?_⟩
  by_cases hik : i = k
  · subst hik
    rw [List.getElem?_set_self (by rw [h.2.1]; exact hk)] at hi
    cases hi
    exact h3 (i, cv v) List.mem_cons_self
  · rw [List.getElem?_set_ne (Ne.symm hik)] at hi
    refine h3 (i, cv w) (List.mem_cons_of_mem _ (List.mem_filter.mpr ⟨iPr_mem hi hw, ?_⟩))
    have hc : (cv w).category = 1 := by
      match w, hw with
      | .inl x, _ => rfl
      | .inr (.inl a), _ => exact cv_cat1 a
      | .inr (.inr y), hw => exact absurd rfl (hw y)
    simp [hik, hc]
